/-! PURE: a day -/
def put4 (f : Nat → Int32) (b : Nat) (a h l d : Int32) : Nat → Int32 := fun i => if i = b + 1 then a else if i = b + 2 then h else if i = b + 3 then l else if i = b + 4 then d else f i
def V4 (f : Nat → Int32) (b : Nat) : Int32 × Int32 × Int32 × Int32 := (f (b + 1), f (b + 2), f (b + 3), f (b + 4))
section P4
variable (f : Nat → Int32) (b : Nat) (a h l d v : Int32)
theorem p4_1 : put4 f b a h l d (b + 1) = a := by simp [put4]
theorem p4_2 : put4 f b a h l d (b + 2) = h := by simp [put4]
theorem p4_3 : put4 f b a h l d (b + 3) = l := by simp [put4]
theorem p4_4 : put4 f b a h l d (b + 4) = d := by simp [put4]
theorem p4_out {i : Nat} (hi : ¬ (b + 1 ≤ i ∧ i ≤ b + 4)) : put4 f b a h l d i = f i := by
  unfold put4
  rw [if_neg (by omega), if_neg (by omega), if_neg (by omega), if_neg (by omega)]
theorem p4_u1 : upd (put4 f b a h l d) (b + 1) v = put4 f b v h l d := by
  funext i
  unfold upd put4
  by_cases z : i = b + 1
  · simp [z]
  · simp [z]
theorem p4_u2 : upd (put4 f b a h l d) (b + 2) v = put4 f b a v l d := by
  funext i
  unfold upd put4
  by_cases z : i = b + 2
  · simp [z]
  · simp [z]
theorem p4_u3 : upd (put4 f b a h l d) (b + 3) v = put4 f b a h v d := by
  funext i
  unfold upd put4
  by_cases z : i = b + 3
  · simp [z]
  · simp [z]
theorem p4_u4 : upd (put4 f b a h l d) (b + 4) v = put4 f b a h l v := by
  funext i
  unfold upd put4
  by_cases z : i = b + 4
  · simp [z]
  · simp [z]
theorem p4_V : V4 (put4 f b a h l d) b = (a, h, l, d) := by
  unfold V4
  rw [p4_1, p4_2, p4_3, p4_4]
theorem p4_Vo {b' : Nat} (hb : b' + 4 < b + 1 ∨ b + 4 < b' + 1) : V4 (put4 f b a h l d) b' = V4 f b' := by
  unfold V4
  rw [p4_out _ _ _ _ _ _ (by omega), p4_out _ _ _ _ _ _ (by omega), p4_out _ _ _ _ _ _ (by omega), p4_out _ _ _ _ _ _ (by omega)]
theorem p4_id (e : V4 f b = (a, h, l, d)) : put4 f b a h l d = f := by
  unfold V4 at e
  simp only [Prod.mk.injEq] at e
  obtain ⟨e1, e2, e3, e4⟩ := e
  funext i
  unfold put4
  by_cases z1 : i = b + 1
  · rw [if_pos z1, z1, e1]
  rw [if_neg z1]
  by_cases z2 : i = b + 2
  · rw [if_pos z2, z2, e2]
  rw [if_neg z2]
  by_cases z3 : i = b + 3
  · rw [if_pos z3, z3, e3]
  rw [if_neg z3]
  by_cases z4 : i = b + 4
  · rw [if_pos z4, z4, e4]
  rw [if_neg z4]
end P4
def gA (K A H L D : Int32) : Int32 := if H = 1 then (if L = 1 then (if D = 1 then A else if K = 5 then (if D = 0 then A + 1 else A) else 0) else (if D = 0 then A + 1 else A)) else if D = 0 then (if H = 3 then A else A + 1) else A
def gH (K H L D : Int32) : Int32 := if H = 1 then (if L = 1 then (if D = 1 then 3 else if K = 5 then 3 else 2) else 1) else if H = 2 then (if L = 1 then 0 else 2) else H
def gL (K H L D w : Int32) : Int32 := if H = 1 then (if L = 1 then (if D = 1 then 0 else if K = 5 then 0 else w) else L - 1) else if H = 2 then (if L = 1 then 0 else L - 1) else L
def gD (K A D S : Int32) : Int32 := if D = 0 then (if K = 5 then 0 else if A ≤ S then 0 else 1) else 1
def gB (K A D S : Int32) (c : Nat) : Int32 := if D = 0 then (if K = 5 then 0 else if A ≤ S then 0 else 1 <<< (nI c &&& 31)) else 0
section DAYL
variable {σL : MS} {y : Nat → Int32} {c q t : Nat} {K A H L D S w v : Int32}
theorem LA1 (hc : c < 12) : FL_about (setR σL 3 (put4 y (5 * c) A H L D)) (nI c) 1 = some A := (p_about (setR σL 3 (put4 y (5 * c) A H L D)) (c := c) (f := 1) (by omega)).trans (congrArg some (p4_1 y (5 * c) A H L D))
theorem LA2 (hc : c < 12) : FL_about (setR σL 3 (put4 y (5 * c) A H L D)) (nI c) 2 = some H := (p_about (setR σL 3 (put4 y (5 * c) A H L D)) (c := c) (f := 2) (by omega)).trans (congrArg some (p4_2 y (5 * c) A H L D))
theorem LA3 (hc : c < 12) : FL_about (setR σL 3 (put4 y (5 * c) A H L D)) (nI c) 3 = some L := (p_about (setR σL 3 (put4 y (5 * c) A H L D)) (c := c) (f := 3) (by omega)).trans (congrArg some (p4_3 y (5 * c) A H L D))
theorem LA4 (hc : c < 12) : FL_about (setR σL 3 (put4 y (5 * c) A H L D)) (nI c) 4 = some D := (p_about (setR σL 3 (put4 y (5 * c) A H L D)) (c := c) (f := 4) (by omega)).trans (congrArg some (p4_4 y (5 * c) A H L D))
theorem setA_setR (σ : MS) (k i : Nat) (f : Nat → Int32) (x : Int32) : setA (setR σ k f) k i x = setR σ k (upd f i x) := by
  rw [setA_R, setR_setR, setR_get]
theorem LP1 (hc : c < 12) : FL_put (setR σL 3 (put4 y (5 * c) A H L D)) (nI c) 1 v = some (setR σL 3 (put4 y (5 * c) v H L D)) := by
  rw [show FL_put (setR σL 3 (put4 y (5 * c) A H L D)) (nI c) 1 v = _ from p_lput _ (c := c) (f := 1) (by omega) v, setA_setR, p4_u1]
theorem LP2 (hc : c < 12) : FL_put (setR σL 3 (put4 y (5 * c) A H L D)) (nI c) 2 v = some (setR σL 3 (put4 y (5 * c) A v L D)) := by
  rw [show FL_put (setR σL 3 (put4 y (5 * c) A H L D)) (nI c) 2 v = _ from p_lput _ (c := c) (f := 2) (by omega) v, setA_setR, p4_u2]
theorem LP3 (hc : c < 12) : FL_put (setR σL 3 (put4 y (5 * c) A H L D)) (nI c) 3 v = some (setR σL 3 (put4 y (5 * c) A H v D)) := by
  rw [show FL_put (setR σL 3 (put4 y (5 * c) A H L D)) (nI c) 3 v = _ from p_lput _ (c := c) (f := 3) (by omega) v, setA_setR, p4_u3]
theorem LP4 (hc : c < 12) : FL_put (setR σL 3 (put4 y (5 * c) A H L D)) (nI c) 4 v = some (setR σL 3 (put4 y (5 * c) A H L v)) := by
  rw [show FL_put (setR σL 3 (put4 y (5 * c) A H L D)) (nI c) 4 v = _ from p_lput _ (c := c) (f := 4) (by omega) v, setA_setR, p4_u4]
theorem LDu (hc : c < 12) : FL_dumb (setR σL 3 (put4 y (5 * c) A H L D)) (nI c) = some (if D = 1 then 1 else 0) := by
  unfold FL_dumb
  rw [LA4 hc, Option.bind_some]
  by_cases z : D = 1
  · rw [if_pos z, if_pos z]
  · rw [if_neg z, if_neg z]
theorem LFo (hc : c < 12) (eK : σL.2 2 c = K) : FL_forged (setR σL 3 (put4 y (5 * c) A H L D)) (nI c) = some (if K = 5 then 1 else 0) := by
  unfold FL_forged
  rw [gd_nI hc (by decide), nI_clamp (by omega), show (setR σL 3 (put4 y (5 * c) A H L D)).2 2 c = K from eK]
  by_cases z : K = 5
  · rw [if_pos z, if_pos z]
  · rw [if_neg z, if_neg z]
theorem LSp (hc : c < 12) (eS : spanV (σL.2 2 c) (σL.1 5) = S) : FL_spanOf (setR σL 3 (put4 y (5 * c) A H L D)) (nI c) = some S := by
  rw [p_lspan _ hc]
  exact congrArg some eS
theorem LTo (hc : c < 12) (hq : q < 6) (ey : y (5 * c) = nI q) (et : σL.2 1 q = nI t) : FL_townOf (setR σL 3 (put4 y (5 * c) A H L D)) (nI c) = some (nI t) :=
  p_ltownOf _ hc hq (show put4 y (5 * c) A H L D (5 * c) = nI q from (p4_out _ _ _ _ _ _ (by omega)).trans ey) et
theorem LDi (ht : t < 8) (ew : σL.2 0 t = w) (hw : w < 1000000) : FL_distance (setR σL 3 y) 0 (nI t) = some w := by
  rw [show FL_distance (setR σL 3 y) 0 (nI t) = _ from p_dist _ (a := 0) (b := t) (by decide) ht, show (setR σL 3 y).2 0 (8 * 0 + t) = w from by rw [Nat.mul_zero, Nat.zero_add]; exact ew, if_pos hw]
theorem i_01 : ¬ (0 : Int32) = 1 := by decide
theorem i_02 : ¬ (0 : Int32) = 2 := by decide
theorem i_03 : ¬ (0 : Int32) = 3 := by decide
theorem i_12 : ¬ (1 : Int32) = 2 := by decide
theorem i_13 : ¬ (1 : Int32) = 3 := by decide
theorem i_21 : ¬ (2 : Int32) = 1 := by decide
theorem i_23 : ¬ (2 : Int32) = 3 := by decide
theorem i_30 : ¬ (3 : Int32) = 0 := by decide
theorem i_31 : ¬ (3 : Int32) = 1 := by decide
theorem i_32 : ¬ (3 : Int32) = 2 := by decide
theorem i_20 : ¬ (2 : Int32) = 0 := by decide
theorem i_s11 : (1 : Int32) - 1 = 0 := by decide
theorem i_le00 : (0 : Int32) ≤ 0 := by decide
theorem i_L {L : Int32} (h0 : 1 ≤ L.toInt) (h1 : ¬ L = 1) : ¬ L - 1 ≤ 0 ∧ ¬ L - 1 = 0 := by
  have e1 : (1 : Int32).toInt = 1 := by decide
  have hu := Int32.toInt_lt L
  have e2 := i32_sub_toInt (a := L) (b := 1) (by omega) (by omega)
  have h2 : L.toInt ≠ 1 := fun z => h1 (Int32.toInt_inj.mp (z.trans e1.symm))
  have e0 : (0 : Int32).toInt = 0 := by decide
  constructor
  · rw [Int32.le_iff_toInt_le]; omega
  · intro z
    have := congrArg Int32.toInt z
    omega
/-- what a coin is, so that a day can go by -/
def OKH (K H L D w : Int32) : Prop := H = 0 ∨ ((H = 1 ∨ H = 2) ∧ 1 ≤ L.toInt ∧ w < 1000000) ∨ H = 3
theorem L_travel (hc : c < 12) (hq : q < 6) (ht : t < 8) (ey : y (5 * c) = nI q) (et : σL.2 1 q = nI t) (ew : σL.2 0 t = w) (eK : σL.2 2 c = K) (hD : D = 0 ∨ D = 1) (hH : H = 1 ∨ H = 2) (hL : 1 ≤ L.toInt) (hw : w < 1000000) : FL_travel (setR σL 3 (put4 y (5 * c) A H L D)) (nI c) = some (setR σL 3 (put4 y (5 * c) (if H = 1 ∧ L = 1 ∧ ¬ D = 1 ∧ ¬ K = 5 then 0 else A) (gH K H L D) (gL K H L D w) D)) := by
  have T := fun A H L D => LTo (σL := σL) (y := y) (c := c) (A := A) (H := H) (L := L) (D := D) hc hq ey et
  have F := fun A H L D => LFo (σL := σL) (y := y) (c := c) (A := A) (H := H) (L := L) (D := D) hc eK
  have I := fun y => LDi (σL := σL) (y := y) ht ew hw
  unfold FL_travel FL_travel_60 gH gL
  by_cases hL1 : L = 1
  · subst hL1
    rcases hD with rfl | rfl <;> rcases hH with rfl | rfl <;> by_cases hK : K = 5 <;>
      simp [LA1 hc, LA2 hc, LA3 hc, LA4 hc, LP1 hc, LP2 hc, LP3 hc, LP4 hc, LDu hc, F, T, I, i_s11, i_le00, i_01, i_12, i_21, hK]
  · obtain ⟨n1, n2⟩ := i_L hL hL1
    rcases hH with rfl | rfl <;>
      simp [LA1 hc, LA2 hc, LA3 hc, LA4 hc, LP1 hc, LP2 hc, LP3 hc, LP4 hc, n1, hL1, i_21]
theorem dayL_step (hc : c < 12) (hq : q < 6) (ht : t < 8) (ey : y (5 * c) = nI q) (et : σL.2 1 q = nI t) (ew : σL.2 0 t = w) (eK : σL.2 2 c = K) (eS : spanV (σL.2 2 c) (σL.1 5) = S) (hD : D = 0 ∨ D = 1) (hH : OKH K H L D w) (hN : ¬ σL.1 7 ≤ nI c) (n : Nat) (acc : Int32) :
    FL_liveDay_15 (n + 1) (setR σL 3 (put4 y (5 * c) A H L D)) acc (nI c) = FL_liveDay_15 n (setR σL 3 (put4 y (5 * c) (gA K A H L D) (gH K H L D) (gL K H L D w) (gD K (gA K A H L D) D S))) (acc ||| gB K (gA K A H L D) D S c) (nI (c + 1)) := by
  have F := fun A H L D => LFo (σL := σL) (y := y) (c := c) (A := A) (H := H) (L := L) (D := D) hc eK
  have Sp := fun A H L D => LSp (σL := σL) (y := y) (c := c) (A := A) (H := H) (L := L) (D := D) hc eS
  have E68 : ∀ A H L, FL_liveDay_68 (FL_liveDay_15 n) (setR σL 3 (put4 y (5 * c) A H L D)) acc (nI c) = FL_liveDay_15 n (setR σL 3 (put4 y (5 * c) A H L (gD K A D S))) (acc ||| gB K A D S c) (nI (c + 1)) := by
    intro A H L
    unfold FL_liveDay_68 FL_liveDay_111 gD gB
    rcases hD with rfl | rfl
    · by_cases hK : K = 5
      · simp [LDu hc, F, hK, i_01, nm, nI_succ]
      · by_cases hA : A ≤ S
        · simp [LDu hc, F, hK, i_01, nm, nI_succ, LA1 hc, Sp, hA]
        · simp [LDu hc, F, hK, i_01, nm, nI_succ, LA1 hc, Sp, hA, LP4 hc]
    · simp [LDu hc, nm, nI_succ]
  have E55 : ∀ A, FL_liveDay_55 (FL_liveDay_15 n) (setR σL 3 (put4 y (5 * c) A H L D)) acc (nI c) = FL_liveDay_68 (FL_liveDay_15 n) (setR σL 3 (put4 y (5 * c) (if H = 1 ∧ L = 1 ∧ ¬ D = 1 ∧ ¬ K = 5 then 0 else A) (gH K H L D) (gL K H L D w) D)) acc (nI c) := by
    intro A
    unfold FL_liveDay_55
    rw [p_under (LA2 hc), Option.bind_some]
    rcases hH with rfl | ⟨hH, hL, hw⟩ | rfl
    · unfold gH gL
      simp [i_01, i_02]
    · rw [if_pos hH, if_neg one_ne_zero32, L_travel hc hq ht ey et ew eK hD hH hL hw, Option.bind_some]
    · unfold gH gL
      simp [i_31, i_32]
  have E15 : FL_liveDay_15 (n + 1) (setR σL 3 (put4 y (5 * c) A H L D)) acc (nI c) = FL_liveDay_55 (FL_liveDay_15 n) (setR σL 3 (put4 y (5 * c) (if D = 0 then (if H = 3 then A else A + 1) else A) H L D)) acc (nI c) := by
    conv => lhs; unfold FL_liveDay_15
    rw [if_neg (show ¬ (setR σL 3 (put4 y (5 * c) A H L D)).1 7 ≤ nI c from hN), LDu hc, Option.bind_some]
    rcases hD with rfl | rfl
    · rw [if_neg i_01, if_pos rfl, LA2 hc, Option.bind_some, if_pos rfl]
      by_cases h3 : H = 3
      · rw [if_pos h3, if_pos h3]
      · rw [if_neg h3, if_neg h3, LA1 hc, Option.bind_some, LP1 hc, Option.bind_some]
    · rw [if_pos rfl, if_neg one_ne_zero32, if_neg one_ne_zero32]
  rw [E15, E55, E68]
  have eA : (if H = 1 ∧ L = 1 ∧ ¬ D = 1 ∧ ¬ K = 5 then 0 else (if D = 0 then (if H = 3 then A else A + 1) else A)) = gA K A H L D := by
    unfold gA
    rcases hH with rfl | ⟨rfl | rfl, hL, hw⟩ | rfl
    · simp [i_01, i_03]
    · by_cases z1 : L = 1
      · by_cases z2 : K = 5
        · rcases hD with rfl | rfl <;> simp [z1, z2, i_13, i_01]
        · rcases hD with rfl | rfl <;> simp [z1, z2, i_13, i_01]
      · simp [z1, i_13]
    · simp [i_21, i_23]
    · simp [i_31]
  rw [eA]
end DAYL
