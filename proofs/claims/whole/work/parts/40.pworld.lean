/-! the world of the class: the object, its two rows of references, the realms, reader, tape, carrier, asker, acts, rows, images -/
abbrev xPF (uP uL uG uR uT uC uA uK : Nat → Nat) (f : Nat → Int32) : List Value := [.ref (uP 1), .ref (uP 2), .ref (uR 0), .ref (uT 0), .ref (uK 0), .ref (uC 0), .ref (uA 0), .ref (uL 0), .ref (uG 0), .int (f 9), .int (f 10)]
abbrev pw (uP uL uG uR uT uC uA uK : Nat → Nat) (uW uI : Nat → Nat → Nat) (cI cB cR cM cJ : ClassId) (σP σL σG σR σT σC σA σK : MS) (ω ι : Nat → MS) : va_W := ([(uP 0, .inr (7, xPF uP uL uG uR uT uC uA uK σP.1)), (uP 1, .inl (cR, 8, .inr (.inr (.inr (.inr (kRefs 8 (fun i => uW i 0))))))), (uP 2, .inl (cM, 2, .inr (.inr (.inr (.inr (kRefs 2 (fun i => uI i 0)))))))] : va_W) ++ (xL uL cI cB cR cM cJ σL ++ (xL uG cI cB cR cM cJ σG ++ (xR uR uT cI cB cR cM cJ σR ++ (xT uT cI cB cR cM cJ σT ++ (xC uC cI cB cR cM cJ σC ++ (xA uA cI cB cR cM cJ σA ++ (xK uK cI cB cR cM cJ σK ++ ((xW (uW 0) cI cB cR cM cJ (ω 0) ++ xW (uW 1) cI cB cR cM cJ (ω 1) ++ xW (uW 2) cI cB cR cM cJ (ω 2) ++ xW (uW 3) cI cB cR cM cJ (ω 3) ++ xW (uW 4) cI cB cR cM cJ (ω 4) ++ xW (uW 5) cI cB cR cM cJ (ω 5) ++ xW (uW 6) cI cB cR cM cJ (ω 6) ++ xW (uW 7) cI cB cR cM cJ (ω 7)) ++ (xL (uI 0) cI cB cR cM cJ (ι 0) ++ xL (uI 1) cI cB cR cM cJ (ι 1))))))))))
/-- one row of a state, as a state -/
def vOf (σ : MS) (k : Nat) : MS := (σ.1, fun _ => σ.2 k)
section PW
variable {uP uL uG uR uT uC uA uK : Nat → Nat} {uW uI : Nat → Nat → Nat} {cI cB cR cM cJ : ClassId} {σP σL σG σR σT σC σA σK : MS} {ω ι : Nat → MS} {τ τ2 τ3 : MS}
theorem kset_app : ∀ (is : List Nat) (w1 : va_W) (ws : va_W) (js : List Nat) (w2 : va_W), is.length = w1.length → kset ws (is ++ js) (w1 ++ w2) = kset (kset ws is w1) js w2 := by
  intro is
  induction is with
  | nil =>
    intro w1 ws js w2 h
    cases w1 with
    | nil => rfl
    | cons c cs => simp at h
  | cons i is ih =>
    intro w1 ws js w2 h
    cases w1 with
    | nil => simp at h
    | cons c cs =>
      show kset (ws.set i c) (is ++ js) (cs ++ w2) = kset (kset (ws.set i c) is cs) js w2
      exact ih cs (ws.set i c) js w2 (by simpa using h)
theorem kset_seg : ∀ (b b' a c : va_W), b'.length = b.length → kset (a ++ (b ++ c)) ((List.range' a.length b.length)) b' = a ++ (b' ++ c) := by
  intro b
  induction b with
  | nil =>
    intro b' a c h
    cases b' with
    | nil => rfl
    | cons x xs => simp at h
  | cons y ys ih =>
    intro b' a c h
    cases b' with
    | nil => simp at h
    | cons x xs =>
      have h2 := ih xs (a ++ [x]) c (by simpa using h)
      have e1 : (a ++ (y :: ys ++ c)).set a.length x = (a ++ [x]) ++ (ys ++ c) := by
        rw [List.set_append_right _ _ (Nat.le_refl _), Nat.sub_self]
        simp
      have e2 : List.range' a.length (y :: ys).length = a.length :: List.range' (a ++ [x]).length ys.length := by simp [List.range']
      rw [e2]
      show kset ((a ++ (y :: ys ++ c)).set a.length x) _ xs = _
      rw [e1, h2]
      simp
theorem pw_kL : kset (pw uP uL uG uR uT uC uA uK uW uI cI cB cR cM cJ σP σL σG σR σT σC σA σK ω ι) [3, 4, 5, 6, 7] (xL uL cI cB cR cM cJ τ) = pw uP uL uG uR uT uC uA uK uW uI cI cB cR cM cJ σP τ σG σR σT σC σA σK ω ι := rfl
theorem pw_cL : ([3, 4, 5, 6, 7] : List Nat).map (fun i => (pw uP uL uG uR uT uC uA uK uW uI cI cB cR cM cJ σP σL σG σR σT σC σA σK ω ι)[i]?) = (xL uL cI cB cR cM cJ σL).map some := rfl
theorem pw_kT : kset (pw uP uL uG uR uT uC uA uK uW uI cI cB cR cM cJ σP σL σG σR σT σC σA σK ω ι) [14, 15] (xT uT cI cB cR cM cJ τ) = pw uP uL uG uR uT uC uA uK uW uI cI cB cR cM cJ σP σL σG σR τ σC σA σK ω ι := rfl
theorem pw_cT : ([14, 15] : List Nat).map (fun i => (pw uP uL uG uR uT uC uA uK uW uI cI cB cR cM cJ σP σL σG σR σT σC σA σK ω ι)[i]?) = (xT uT cI cB cR cM cJ σT).map some := rfl
theorem pw_kRTG : kset (pw uP uL uG uR uT uC uA uK uW uI cI cB cR cM cJ σP σL σG σR σT σC σA σK ω ι) [13, 14, 15, 8, 9, 10, 11, 12] ((xR uR uT cI cB cR cM cJ τ ++ xT uT cI cB cR cM cJ τ2 ++ xL uG cI cB cR cM cJ τ3)) = pw uP uL uG uR uT uC uA uK uW uI cI cB cR cM cJ σP σL τ3 τ τ2 σC σA σK ω ι := rfl
theorem pw_cRTG : ([13, 14, 15, 8, 9, 10, 11, 12] : List Nat).map (fun i => (pw uP uL uG uR uT uC uA uK uW uI cI cB cR cM cJ σP σL σG σR σT σC σA σK ω ι)[i]?) = ((xR uR uT cI cB cR cM cJ σR ++ xT uT cI cB cR cM cJ σT ++ xL uG cI cB cR cM cJ σG)).map some := rfl
theorem pw_kCL : kset (pw uP uL uG uR uT uC uA uK uW uI cI cB cR cM cJ σP σL σG σR σT σC σA σK ω ι) [16, 17, 18, 3, 4, 5, 6, 7] ((xC uC cI cB cR cM cJ τ ++ xL uL cI cB cR cM cJ τ2)) = pw uP uL uG uR uT uC uA uK uW uI cI cB cR cM cJ σP τ2 σG σR σT τ σA σK ω ι := rfl
theorem pw_cCL : ([16, 17, 18, 3, 4, 5, 6, 7] : List Nat).map (fun i => (pw uP uL uG uR uT uC uA uK uW uI cI cB cR cM cJ σP σL σG σR σT σC σA σK ω ι)[i]?) = ((xC uC cI cB cR cM cJ σC ++ xL uL cI cB cR cM cJ σL)).map some := rfl
theorem pw_kC : kset (pw uP uL uG uR uT uC uA uK uW uI cI cB cR cM cJ σP σL σG σR σT σC σA σK ω ι) [16, 17, 18] (xC uC cI cB cR cM cJ τ) = pw uP uL uG uR uT uC uA uK uW uI cI cB cR cM cJ σP σL σG σR σT τ σA σK ω ι := rfl
theorem pw_cC : ([16, 17, 18] : List Nat).map (fun i => (pw uP uL uG uR uT uC uA uK uW uI cI cB cR cM cJ σP σL σG σR σT σC σA σK ω ι)[i]?) = (xC uC cI cB cR cM cJ σC).map some := rfl
theorem pw_kAL : kset (pw uP uL uG uR uT uC uA uK uW uI cI cB cR cM cJ σP σL σG σR σT σC σA σK ω ι) [19, 20, 3, 4, 5, 6, 7] ((xA uA cI cB cR cM cJ τ ++ xL uL cI cB cR cM cJ τ2)) = pw uP uL uG uR uT uC uA uK uW uI cI cB cR cM cJ σP τ2 σG σR σT σC τ σK ω ι := rfl
theorem pw_cAL : ([19, 20, 3, 4, 5, 6, 7] : List Nat).map (fun i => (pw uP uL uG uR uT uC uA uK uW uI cI cB cR cM cJ σP σL σG σR σT σC σA σK ω ι)[i]?) = ((xA uA cI cB cR cM cJ σA ++ xL uL cI cB cR cM cJ σL)).map some := rfl
theorem pw_kA : kset (pw uP uL uG uR uT uC uA uK uW uI cI cB cR cM cJ σP σL σG σR σT σC σA σK ω ι) [19, 20] (xA uA cI cB cR cM cJ τ) = pw uP uL uG uR uT uC uA uK uW uI cI cB cR cM cJ σP σL σG σR σT σC τ σK ω ι := rfl
theorem pw_cA : ([19, 20] : List Nat).map (fun i => (pw uP uL uG uR uT uC uA uK uW uI cI cB cR cM cJ σP σL σG σR σT σC σA σK ω ι)[i]?) = (xA uA cI cB cR cM cJ σA).map some := rfl
theorem pw_kK : kset (pw uP uL uG uR uT uC uA uK uW uI cI cB cR cM cJ σP σL σG σR σT σC σA σK ω ι) [21, 22, 23, 24, 25, 26, 27, 28, 29, 30, 31, 32, 33, 34, 35, 36, 37, 38, 39, 40, 41, 42, 43, 44, 45, 46] (xK uK cI cB cR cM cJ τ) = pw uP uL uG uR uT uC uA uK uW uI cI cB cR cM cJ σP σL σG σR σT σC σA τ ω ι := kset_seg (xK uK cI cB cR cM cJ σK) (xK uK cI cB cR cM cJ τ) (([(uP 0, .inr (7, xPF uP uL uG uR uT uC uA uK σP.1)), (uP 1, .inl (cR, 8, .inr (.inr (.inr (.inr (kRefs 8 (fun i => uW i 0))))))), (uP 2, .inl (cM, 2, .inr (.inr (.inr (.inr (kRefs 2 (fun i => uI i 0)))))))] : va_W) ++ (xL uL cI cB cR cM cJ σL ++ (xL uG cI cB cR cM cJ σG ++ (xR uR uT cI cB cR cM cJ σR ++ (xT uT cI cB cR cM cJ σT ++ (xC uC cI cB cR cM cJ σC ++ xA uA cI cB cR cM cJ σA)))))) ((xW (uW 0) cI cB cR cM cJ (ω 0) ++ xW (uW 1) cI cB cR cM cJ (ω 1) ++ xW (uW 2) cI cB cR cM cJ (ω 2) ++ xW (uW 3) cI cB cR cM cJ (ω 3) ++ xW (uW 4) cI cB cR cM cJ (ω 4) ++ xW (uW 5) cI cB cR cM cJ (ω 5) ++ xW (uW 6) cI cB cR cM cJ (ω 6) ++ xW (uW 7) cI cB cR cM cJ (ω 7)) ++ (xL (uI 0) cI cB cR cM cJ (ι 0) ++ xL (uI 1) cI cB cR cM cJ (ι 1))) rfl
theorem pw_cK : ([21, 22, 23, 24, 25, 26, 27, 28, 29, 30, 31, 32, 33, 34, 35, 36, 37, 38, 39, 40, 41, 42, 43, 44, 45, 46] : List Nat).map (fun i => (pw uP uL uG uR uT uC uA uK uW uI cI cB cR cM cJ σP σL σG σR σT σC σA σK ω ι)[i]?) = (xK uK cI cB cR cM cJ σK).map some := rfl
theorem pw_kKV : kset (pw uP uL uG uR uT uC uA uK uW uI cI cB cR cM cJ σP σL σG σR σT σC σA σK ω ι) [21, 22, 23, 24, 25, 26, 27, 28, 29, 30, 31, 32, 33, 34, 35, 36, 37, 38, 39, 40, 41, 42, 43, 44, 45, 46, 7] ((xK uK cI cB cR cM cJ τ ++ xV (fun _ => uL 4) cI cB cR cM cJ τ2)) = pw uP uL uG uR uT uC uA uK uW uI cI cB cR cM cJ σP (setR σL 3 (τ2.2 0)) σG σR σT σC σA τ ω ι := (kset_app [21, 22, 23, 24, 25, 26, 27, 28, 29, 30, 31, 32, 33, 34, 35, 36, 37, 38, 39, 40, 41, 42, 43, 44, 45, 46] (xK uK cI cB cR cM cJ τ) (pw uP uL uG uR uT uC uA uK uW uI cI cB cR cM cJ σP σL σG σR σT σC σA σK ω ι) [7] (xV (fun _ => uL 4) cI cB cR cM cJ τ2) rfl).trans ((congrArg (fun z => kset z [7] (xV (fun _ => uL 4) cI cB cR cM cJ τ2)) pw_kK).trans rfl)
theorem pw_cKV : ([21, 22, 23, 24, 25, 26, 27, 28, 29, 30, 31, 32, 33, 34, 35, 36, 37, 38, 39, 40, 41, 42, 43, 44, 45, 46, 7] : List Nat).map (fun i => (pw uP uL uG uR uT uC uA uK uW uI cI cB cR cM cJ σP σL σG σR σT σC σA σK ω ι)[i]?) = ((xK uK cI cB cR cM cJ σK ++ xV (fun _ => uL 4) cI cB cR cM cJ (vOf σL 3))).map some := rfl
theorem pw_rowAt (k : Nat) (hk : k < 8) : (pw uP uL uG uR uT uC uA uK uW uI cI cB cR cM cJ σP σL σG σR σT σC σA σK ω ι)[47 + 2 * k]? = some (uW k 0, .inr (5, xWF (uW k) (ω k).1)) := by
  rcases (show (k = 0 ∨ k = 1 ∨ k = 2 ∨ k = 3 ∨ k = 4 ∨ k = 5 ∨ k = 6 ∨ k = 7) by omega) with rfl | rfl | rfl | rfl | rfl | rfl | rfl | rfl <;> rfl
theorem pw_itAt (k : Nat) (hk : k < 8) : (pw uP uL uG uR uT uC uA uK uW uI cI cB cR cM cJ σP σL σG σR σT σC σA σK ω ι)[48 + 2 * k]? = some (uW k 1, .inl (cI, 40, .inl ((ω k).2 0))) := by
  rcases (show (k = 0 ∨ k = 1 ∨ k = 2 ∨ k = 3 ∨ k = 4 ∨ k = 5 ∨ k = 6 ∨ k = 7) by omega) with rfl | rfl | rfl | rfl | rfl | rfl | rfl | rfl <;> rfl
theorem pw_cW (k : Nat) (hk : k < 8) : [47 + 2 * k, 48 + 2 * k].map (fun i => (pw uP uL uG uR uT uC uA uK uW uI cI cB cR cM cJ σP σL σG σR σT σC σA σK ω ι)[i]?) = (xW (uW k) cI cB cR cM cJ (ω k)).map some := by
  rcases (show (k = 0 ∨ k = 1 ∨ k = 2 ∨ k = 3 ∨ k = 4 ∨ k = 5 ∨ k = 6 ∨ k = 7) by omega) with rfl | rfl | rfl | rfl | rfl | rfl | rfl | rfl <;> rfl
theorem pw_nW (k : Nat) (hk : k < 8) : va_nd [47 + 2 * k, 48 + 2 * k] = true := by
  rcases (show (k = 0 ∨ k = 1 ∨ k = 2 ∨ k = 3 ∨ k = 4 ∨ k = 5 ∨ k = 6 ∨ k = 7) by omega) with rfl | rfl | rfl | rfl | rfl | rfl | rfl | rfl <;> rfl
theorem pw_kW (k : Nat) (hk : k < 8) : kset (pw uP uL uG uR uT uC uA uK uW uI cI cB cR cM cJ σP σL σG σR σT σC σA σK ω ι) [47 + 2 * k, 48 + 2 * k] (xW (uW k) cI cB cR cM cJ τ) = pw uP uL uG uR uT uC uA uK uW uI cI cB cR cM cJ σP σL σG σR σT σC σA σK (va_up ω k τ) ι := by
  rcases (show (k = 0 ∨ k = 1 ∨ k = 2 ∨ k = 3 ∨ k = 4 ∨ k = 5 ∨ k = 6 ∨ k = 7) by omega) with rfl | rfl | rfl | rfl | rfl | rfl | rfl | rfl <;> rfl
theorem pw_itS (g : Nat → Int32) (k : Nat) (hk : k < 8) : (pw uP uL uG uR uT uC uA uK uW uI cI cB cR cM cJ σP σL σG σR σT σC σA σK ω ι).set (48 + 2 * k) (uW k 1, .inl (cI, 40, .inl g)) = pw uP uL uG uR uT uC uA uK uW uI cI cB cR cM cJ σP σL σG σR σT σC σA σK (va_up ω k (setR (ω k) 0 g)) ι := by
  rcases (show (k = 0 ∨ k = 1 ∨ k = 2 ∨ k = 3 ∨ k = 4 ∨ k = 5 ∨ k = 6 ∨ k = 7) by omega) with rfl | rfl | rfl | rfl | rfl | rfl | rfl | rfl <;> rfl
theorem pw_imAt (k : Nat) (hk : k < 2) : (pw uP uL uG uR uT uC uA uK uW uI cI cB cR cM cJ σP σL σG σR σT σC σA σK ω ι)[63 + 5 * k]? = some (uI k 0, .inr (4, xLF (uI k) (ι k).1)) := by
  rcases (show (k = 0 ∨ k = 1) by omega) with rfl | rfl <;> rfl
theorem pw_cIL (k : Nat) (hk : k < 2) : [63 + 5 * k, 64 + 5 * k, 65 + 5 * k, 66 + 5 * k, 67 + 5 * k, 3, 4, 5, 6, 7].map (fun i => (pw uP uL uG uR uT uC uA uK uW uI cI cB cR cM cJ σP σL σG σR σT σC σA σK ω ι)[i]?) = (xL (uI k) cI cB cR cM cJ (ι k) ++ xL uL cI cB cR cM cJ σL).map some := by
  rcases (show (k = 0 ∨ k = 1) by omega) with rfl | rfl <;> rfl
theorem pw_nIL (k : Nat) (hk : k < 2) : va_nd [63 + 5 * k, 64 + 5 * k, 65 + 5 * k, 66 + 5 * k, 67 + 5 * k, 3, 4, 5, 6, 7] = true := by
  rcases (show (k = 0 ∨ k = 1) by omega) with rfl | rfl <;> rfl
theorem pw_kIL (k : Nat) (hk : k < 2) : kset (pw uP uL uG uR uT uC uA uK uW uI cI cB cR cM cJ σP σL σG σR σT σC σA σK ω ι) [63 + 5 * k, 64 + 5 * k, 65 + 5 * k, 66 + 5 * k, 67 + 5 * k, 3, 4, 5, 6, 7] (xL (uI k) cI cB cR cM cJ τ ++ xL uL cI cB cR cM cJ τ2) = pw uP uL uG uR uT uC uA uK uW uI cI cB cR cM cJ σP τ2 σG σR σT σC σA σK ω (va_up ι k τ) := by
  rcases (show (k = 0 ∨ k = 1) by omega) with rfl | rfl <;> rfl
theorem pw_cLI (k : Nat) (hk : k < 2) : [3, 4, 5, 6, 7, 63 + 5 * k, 64 + 5 * k, 65 + 5 * k, 66 + 5 * k, 67 + 5 * k].map (fun i => (pw uP uL uG uR uT uC uA uK uW uI cI cB cR cM cJ σP σL σG σR σT σC σA σK ω ι)[i]?) = (xL uL cI cB cR cM cJ σL ++ xL (uI k) cI cB cR cM cJ (ι k)).map some := by
  rcases (show (k = 0 ∨ k = 1) by omega) with rfl | rfl <;> rfl
theorem pw_nLI (k : Nat) (hk : k < 2) : va_nd [3, 4, 5, 6, 7, 63 + 5 * k, 64 + 5 * k, 65 + 5 * k, 66 + 5 * k, 67 + 5 * k] = true := by
  rcases (show (k = 0 ∨ k = 1) by omega) with rfl | rfl <;> rfl
theorem pw_kLI (k : Nat) (hk : k < 2) : kset (pw uP uL uG uR uT uC uA uK uW uI cI cB cR cM cJ σP σL σG σR σT σC σA σK ω ι) [3, 4, 5, 6, 7, 63 + 5 * k, 64 + 5 * k, 65 + 5 * k, 66 + 5 * k, 67 + 5 * k] (xL uL cI cB cR cM cJ τ ++ xL (uI k) cI cB cR cM cJ τ2) = pw uP uL uG uR uT uC uA uK uW uI cI cB cR cM cJ σP τ σG σR σT σC σA σK ω (va_up ι k τ2) := by
  rcases (show (k = 0 ∨ k = 1) by omega) with rfl | rfl <;> rfl
theorem va_up_id {α : Type} (f : Nat → α) (k : Nat) : va_up f k (f k) = f := by
  funext j
  by_cases h : j = k
  · subst h; simp [va_up]
  · simp [va_up, h]
theorem setR_self (σ : MS) (k : Nat) : setR σ k (σ.2 k) = σ := by
  obtain ⟨a, b⟩ := σ
  show (a, va_up b k (b k)) = (a, b)
  rw [va_up_id]
theorem setR_vOf (σ : MS) (k : Nat) : setR σ k ((vOf σ k).2 0) = σ := setR_self σ k
end PW
section PF
variable {p : Program} {l : Launch} {e : Env} {R : Room} {s : State} {m : MethodId} {args : Array Value} {below : List Frame} {meth : Method} {c : Code} {H : Heap} {locs : List Loc} {cells slots : Nat} {Q : State → Prop}
variable {cc : ByteArray} {pc : Nat} {ls : Array Slot} {rest : List Value} {D : va_G} {A : Nat → Prop} {H0 : Heap} {nL idx : Nat} {Ts : List Cond} {own : String} {tys : List (ClassId × FieldType)} {uP uL uG uR uT uC uA uK : Nat → Nat} {uW uI : Nat → Nat → Nat} {cI cB cR cM cJ : ClassId} {σP σL σG σR σT σC σA σK : MS} {ω ι : Nat → MS}
theorem Pg_0 (S : CallFix p m c cc nL s args Ts own) (hin : ∀ w ∈ wsX80, w ∈ Ts) (hK : va_K D vwCl tys s) (hP : va_P D vwCl (pw uP uL uG uR uT uC uA uK uW uI cI cB cR cM cJ σP σL σG σR σT σC σA σK ω ι) H) (hf : (Cond.fieldLink own idx "PenniesAway" "rows" "[LPenniesAway$Row;").before args s = true) (hdg : decode cc pc = .ok (.getfield idx, 3)) (kk : W p l e R s m args below meth c H locs cells slots Q (F0 m (pc + 3) ls (.ref (uP 1) :: rest))) : W p l e R s m args below meth c H locs cells slots Q (F0 m pc ls (.ref (uP 0) :: rest)) :=
  va_get (D := D) (ci := 7) (v := .ref (uP 1)) (C := RX8) (T := TX8) (N := 11) S.1 S.2.1 S.2.2.2.2 hin S.2.2.2.1 hK hP 0 rfl rfl 0 (by decide) hf (fun _ h9 => h9) rfl hdg kk
theorem Pg_1 (S : CallFix p m c cc nL s args Ts own) (hin : ∀ w ∈ wsX80, w ∈ Ts) (hK : va_K D vwCl tys s) (hP : va_P D vwCl (pw uP uL uG uR uT uC uA uK uW uI cI cB cR cM cJ σP σL σG σR σT σC σA σK ω ι) H) (hf : (Cond.fieldLink own idx "PenniesAway" "images" "[LPenniesAway$Realm;").before args s = true) (hdg : decode cc pc = .ok (.getfield idx, 3)) (kk : W p l e R s m args below meth c H locs cells slots Q (F0 m (pc + 3) ls (.ref (uP 2) :: rest))) : W p l e R s m args below meth c H locs cells slots Q (F0 m pc ls (.ref (uP 0) :: rest)) :=
  va_get (D := D) (ci := 7) (v := .ref (uP 2)) (C := RX8) (T := TX8) (N := 11) S.1 S.2.1 S.2.2.2.2 hin S.2.2.2.1 hK hP 0 rfl rfl 1 (by decide) hf (fun _ h9 => h9) rfl hdg kk
theorem Pg_2 (S : CallFix p m c cc nL s args Ts own) (hin : ∀ w ∈ wsX80, w ∈ Ts) (hK : va_K D vwCl tys s) (hP : va_P D vwCl (pw uP uL uG uR uT uC uA uK uW uI cI cB cR cM cJ σP σL σG σR σT σC σA σK ω ι) H) (hf : (Cond.fieldLink own idx "PenniesAway" "reader" "LPenniesAway$Reader;").before args s = true) (hdg : decode cc pc = .ok (.getfield idx, 3)) (kk : W p l e R s m args below meth c H locs cells slots Q (F0 m (pc + 3) ls (.ref (uR 0) :: rest))) : W p l e R s m args below meth c H locs cells slots Q (F0 m pc ls (.ref (uP 0) :: rest)) :=
  va_get (D := D) (ci := 7) (v := .ref (uR 0)) (C := RX8) (T := TX8) (N := 11) S.1 S.2.1 S.2.2.2.2 hin S.2.2.2.1 hK hP 0 rfl rfl 2 (by decide) hf (fun _ h9 => h9) rfl hdg kk
theorem Pg_3 (S : CallFix p m c cc nL s args Ts own) (hin : ∀ w ∈ wsX80, w ∈ Ts) (hK : va_K D vwCl tys s) (hP : va_P D vwCl (pw uP uL uG uR uT uC uA uK uW uI cI cB cR cM cJ σP σL σG σR σT σC σA σK ω ι) H) (hf : (Cond.fieldLink own idx "PenniesAway" "tape" "LPenniesAway$Tape;").before args s = true) (hdg : decode cc pc = .ok (.getfield idx, 3)) (kk : W p l e R s m args below meth c H locs cells slots Q (F0 m (pc + 3) ls (.ref (uT 0) :: rest))) : W p l e R s m args below meth c H locs cells slots Q (F0 m pc ls (.ref (uP 0) :: rest)) :=
  va_get (D := D) (ci := 7) (v := .ref (uT 0)) (C := RX8) (T := TX8) (N := 11) S.1 S.2.1 S.2.2.2.2 hin S.2.2.2.1 hK hP 0 rfl rfl 3 (by decide) hf (fun _ h9 => h9) rfl hdg kk
theorem Pg_4 (S : CallFix p m c cc nL s args Ts own) (hin : ∀ w ∈ wsX80, w ∈ Ts) (hK : va_K D vwCl tys s) (hP : va_P D vwCl (pw uP uL uG uR uT uC uA uK uW uI cI cB cR cM cJ σP σL σG σR σT σC σA σK ω ι) H) (hf : (Cond.fieldLink own idx "PenniesAway" "acts" "LPenniesAway$Acts;").before args s = true) (hdg : decode cc pc = .ok (.getfield idx, 3)) (kk : W p l e R s m args below meth c H locs cells slots Q (F0 m (pc + 3) ls (.ref (uK 0) :: rest))) : W p l e R s m args below meth c H locs cells slots Q (F0 m pc ls (.ref (uP 0) :: rest)) :=
  va_get (D := D) (ci := 7) (v := .ref (uK 0)) (C := RX8) (T := TX8) (N := 11) S.1 S.2.1 S.2.2.2.2 hin S.2.2.2.1 hK hP 0 rfl rfl 4 (by decide) hf (fun _ h9 => h9) rfl hdg kk
theorem Pg_5 (S : CallFix p m c cc nL s args Ts own) (hin : ∀ w ∈ wsX80, w ∈ Ts) (hK : va_K D vwCl tys s) (hP : va_P D vwCl (pw uP uL uG uR uT uC uA uK uW uI cI cB cR cM cJ σP σL σG σR σT σC σA σK ω ι) H) (hf : (Cond.fieldLink own idx "PenniesAway" "carrier" "LPenniesAway$Carrier;").before args s = true) (hdg : decode cc pc = .ok (.getfield idx, 3)) (kk : W p l e R s m args below meth c H locs cells slots Q (F0 m (pc + 3) ls (.ref (uC 0) :: rest))) : W p l e R s m args below meth c H locs cells slots Q (F0 m pc ls (.ref (uP 0) :: rest)) :=
  va_get (D := D) (ci := 7) (v := .ref (uC 0)) (C := RX8) (T := TX8) (N := 11) S.1 S.2.1 S.2.2.2.2 hin S.2.2.2.1 hK hP 0 rfl rfl 5 (by decide) hf (fun _ h9 => h9) rfl hdg kk
theorem Pg_6 (S : CallFix p m c cc nL s args Ts own) (hin : ∀ w ∈ wsX80, w ∈ Ts) (hK : va_K D vwCl tys s) (hP : va_P D vwCl (pw uP uL uG uR uT uC uA uK uW uI cI cB cR cM cJ σP σL σG σR σT σC σA σK ω ι) H) (hf : (Cond.fieldLink own idx "PenniesAway" "asker" "LPenniesAway$Asker;").before args s = true) (hdg : decode cc pc = .ok (.getfield idx, 3)) (kk : W p l e R s m args below meth c H locs cells slots Q (F0 m (pc + 3) ls (.ref (uA 0) :: rest))) : W p l e R s m args below meth c H locs cells slots Q (F0 m pc ls (.ref (uP 0) :: rest)) :=
  va_get (D := D) (ci := 7) (v := .ref (uA 0)) (C := RX8) (T := TX8) (N := 11) S.1 S.2.1 S.2.2.2.2 hin S.2.2.2.1 hK hP 0 rfl rfl 6 (by decide) hf (fun _ h9 => h9) rfl hdg kk
theorem Pg_7 (S : CallFix p m c cc nL s args Ts own) (hin : ∀ w ∈ wsX80, w ∈ Ts) (hK : va_K D vwCl tys s) (hP : va_P D vwCl (pw uP uL uG uR uT uC uA uK uW uI cI cB cR cM cJ σP σL σG σR σT σC σA σK ω ι) H) (hf : (Cond.fieldLink own idx "PenniesAway" "kingdom" "LPenniesAway$Realm;").before args s = true) (hdg : decode cc pc = .ok (.getfield idx, 3)) (kk : W p l e R s m args below meth c H locs cells slots Q (F0 m (pc + 3) ls (.ref (uL 0) :: rest))) : W p l e R s m args below meth c H locs cells slots Q (F0 m pc ls (.ref (uP 0) :: rest)) :=
  va_get (D := D) (ci := 7) (v := .ref (uL 0)) (C := RX8) (T := TX8) (N := 11) S.1 S.2.1 S.2.2.2.2 hin S.2.2.2.1 hK hP 0 rfl rfl 7 (by decide) hf (fun _ h9 => h9) rfl hdg kk
theorem Pg_8 (S : CallFix p m c cc nL s args Ts own) (hin : ∀ w ∈ wsX80, w ∈ Ts) (hK : va_K D vwCl tys s) (hP : va_P D vwCl (pw uP uL uG uR uT uC uA uK uW uI cI cB cR cM cJ σP σL σG σR σT σC σA σK ω ι) H) (hf : (Cond.fieldLink own idx "PenniesAway" "draft" "LPenniesAway$Realm;").before args s = true) (hdg : decode cc pc = .ok (.getfield idx, 3)) (kk : W p l e R s m args below meth c H locs cells slots Q (F0 m (pc + 3) ls (.ref (uG 0) :: rest))) : W p l e R s m args below meth c H locs cells slots Q (F0 m pc ls (.ref (uP 0) :: rest)) :=
  va_get (D := D) (ci := 7) (v := .ref (uG 0)) (C := RX8) (T := TX8) (N := 11) S.1 S.2.1 S.2.2.2.2 hin S.2.2.2.1 hK hP 0 rfl rfl 8 (by decide) hf (fun _ h9 => h9) rfl hdg kk
theorem Pg_9 (S : CallFix p m c cc nL s args Ts own) (hin : ∀ w ∈ wsX80, w ∈ Ts) (hK : va_K D vwCl tys s) (hP : va_P D vwCl (pw uP uL uG uR uT uC uA uK uW uI cI cB cR cM cJ σP σL σG σR σT σC σA σK ω ι) H) (hf : (Cond.fieldLink own idx "PenniesAway" "latestFinding" "I").before args s = true) (hdg : decode cc pc = .ok (.getfield idx, 3)) (kk : W p l e R s m args below meth c H locs cells slots Q (F0 m (pc + 3) ls (.int (σP.1 9) :: rest))) : W p l e R s m args below meth c H locs cells slots Q (F0 m pc ls (.ref (uP 0) :: rest)) :=
  va_get (D := D) (ci := 7) (v := .int (σP.1 9)) (C := RX8) (T := TX8) (N := 11) S.1 S.2.1 S.2.2.2.2 hin S.2.2.2.1 hK hP 0 rfl rfl 9 (by decide) hf (fun _ h9 => h9) rfl hdg kk
theorem Pp_9 {x : Int32} (S : CallFix p m c cc nL s args Ts own) (hin : ∀ w ∈ wsX80, w ∈ Ts) (hK : va_K D vwCl tys s) (hP : va_P D vwCl (pw uP uL uG uR uT uC uA uK uW uI cI cB cR cM cJ σP σL σG σR σT σC σA σK ω ι) H) (hD : va_D A (pw uP uL uG uR uT uC uA uK uW uI cI cB cR cM cJ σP σL σG σR σT σC σA σK ω ι)) (hS : va_S A H0 H locs) (hf : (Cond.fieldLink own idx "PenniesAway" "latestFinding" "I").before args s = true) (hdg : decode cc pc = .ok (.putfield idx, 3)) (kk : ∀ (H1 : Heap) (locs1 : List Loc), va_P D vwCl (pw uP uL uG uR uT uC uA uK uW uI cI cB cR cM cJ (setF σP 9 x) σL σG σR σT σC σA σK ω ι) H1 → va_D A (pw uP uL uG uR uT uC uA uK uW uI cI cB cR cM cJ (setF σP 9 x) σL σG σR σT σC σA σK ω ι) → va_S A H0 H1 locs1 → W p l e R s m args below meth c H1 locs1 cells slots Q (F0 m (pc + 3) ls rest)) : W p l e R s m args below meth c H locs cells slots Q (F0 m pc ls (.int x :: .ref (uP 0) :: rest)) :=
  va_put (D := D) (ci := 7) (v := .int x) (ty := .int) (C := RX8) (T := TX8) (N := 11) S.1 S.2.1 S.2.2.2.2 hin tyX8 tyX8_ok nmX8 S.2.2.2.1 hK hP hD hS 0 rfl rfl 9 (by decide) hf (fun _ h9 => h9) rfl (by decide +kernel) rfl rfl (Nat.le_of_ble_eq_true rfl) hdg kk
theorem Pg_10 (S : CallFix p m c cc nL s args Ts own) (hin : ∀ w ∈ wsX80, w ∈ Ts) (hK : va_K D vwCl tys s) (hP : va_P D vwCl (pw uP uL uG uR uT uC uA uK uW uI cI cB cR cM cJ σP σL σG σR σT σC σA σK ω ι) H) (hf : (Cond.fieldLink own idx "PenniesAway" "latestFault" "I").before args s = true) (hdg : decode cc pc = .ok (.getfield idx, 3)) (kk : W p l e R s m args below meth c H locs cells slots Q (F0 m (pc + 3) ls (.int (σP.1 10) :: rest))) : W p l e R s m args below meth c H locs cells slots Q (F0 m pc ls (.ref (uP 0) :: rest)) :=
  va_get (D := D) (ci := 7) (v := .int (σP.1 10)) (C := RX8) (T := TX8) (N := 11) S.1 S.2.1 S.2.2.2.2 hin S.2.2.2.1 hK hP 0 rfl rfl 10 (by decide) hf (fun _ h9 => h9) rfl hdg kk
theorem Pp_10 {x : Int32} (S : CallFix p m c cc nL s args Ts own) (hin : ∀ w ∈ wsX80, w ∈ Ts) (hK : va_K D vwCl tys s) (hP : va_P D vwCl (pw uP uL uG uR uT uC uA uK uW uI cI cB cR cM cJ σP σL σG σR σT σC σA σK ω ι) H) (hD : va_D A (pw uP uL uG uR uT uC uA uK uW uI cI cB cR cM cJ σP σL σG σR σT σC σA σK ω ι)) (hS : va_S A H0 H locs) (hf : (Cond.fieldLink own idx "PenniesAway" "latestFault" "I").before args s = true) (hdg : decode cc pc = .ok (.putfield idx, 3)) (kk : ∀ (H1 : Heap) (locs1 : List Loc), va_P D vwCl (pw uP uL uG uR uT uC uA uK uW uI cI cB cR cM cJ (setF σP 10 x) σL σG σR σT σC σA σK ω ι) H1 → va_D A (pw uP uL uG uR uT uC uA uK uW uI cI cB cR cM cJ (setF σP 10 x) σL σG σR σT σC σA σK ω ι) → va_S A H0 H1 locs1 → W p l e R s m args below meth c H1 locs1 cells slots Q (F0 m (pc + 3) ls rest)) : W p l e R s m args below meth c H locs cells slots Q (F0 m pc ls (.int x :: .ref (uP 0) :: rest)) :=
  va_put (D := D) (ci := 7) (v := .int x) (ty := .int) (C := RX8) (T := TX8) (N := 11) S.1 S.2.1 S.2.2.2.2 hin tyX8 tyX8_ok nmX8 S.2.2.2.1 hK hP hD hS 0 rfl rfl 10 (by decide) hf (fun _ h9 => h9) rfl (by decide +kernel) rfl rfl (Nat.le_of_ble_eq_true rfl) hdg kk
end PF
