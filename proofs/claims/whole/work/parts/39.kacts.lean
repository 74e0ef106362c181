/-! the kept acts: the object, its row of rows, the 24 rows -/
abbrev xKF (h : Nat → Nat) (f : Nat → Int32) : List Value := [.ref (h 1), .int (f 1), .int (f 2)]
def kRefs (n : Nat) (u : Nat → Nat) : Nat → Option Nat := fun i => if i < n then some (u i) else none
abbrev xK (h : Nat → Nat) (cI cB cR cM cJ : ClassId) (σ : MS) : va_W := [(h 0, .inr (0, xKF h σ.1)), (h 1, .inl (cJ, 24, .inr (.inr (.inr (.inr (kRefs 24 (fun i => h (i + 2)))))))), (h 2, .inl (cI, 61, .inl (σ.2 0))), (h 3, .inl (cI, 61, .inl (σ.2 1))), (h 4, .inl (cI, 61, .inl (σ.2 2))), (h 5, .inl (cI, 61, .inl (σ.2 3))), (h 6, .inl (cI, 61, .inl (σ.2 4))), (h 7, .inl (cI, 61, .inl (σ.2 5))), (h 8, .inl (cI, 61, .inl (σ.2 6))), (h 9, .inl (cI, 61, .inl (σ.2 7))), (h 10, .inl (cI, 61, .inl (σ.2 8))), (h 11, .inl (cI, 61, .inl (σ.2 9))), (h 12, .inl (cI, 61, .inl (σ.2 10))), (h 13, .inl (cI, 61, .inl (σ.2 11))), (h 14, .inl (cI, 61, .inl (σ.2 12))), (h 15, .inl (cI, 61, .inl (σ.2 13))), (h 16, .inl (cI, 61, .inl (σ.2 14))), (h 17, .inl (cI, 61, .inl (σ.2 15))), (h 18, .inl (cI, 61, .inl (σ.2 16))), (h 19, .inl (cI, 61, .inl (σ.2 17))), (h 20, .inl (cI, 61, .inl (σ.2 18))), (h 21, .inl (cI, 61, .inl (σ.2 19))), (h 22, .inl (cI, 61, .inl (σ.2 20))), (h 23, .inl (cI, 61, .inl (σ.2 21))), (h 24, .inl (cI, 61, .inl (σ.2 22))), (h 25, .inl (cI, 61, .inl (σ.2 23)))]
/-- one row of ints -/
abbrev xV (h : Nat → Nat) (cI cB cR cM cJ : ClassId) (σ : MS) : va_W := [(h 1, .inl (cI, 61, .inl (σ.2 0)))]
theorem xK_at (h : Nat → Nat) (cI cB cR cM cJ : ClassId) (σ : MS) (w : va_W) (k : Nat) (hk : k < 24) : (xK h cI cB cR cM cJ σ ++ w)[k + 2]? = some (h (k + 2), .inl (cI, 61, .inl (σ.2 k))) := by
  rcases (show (k = 0 ∨ k = 1 ∨ k = 2 ∨ k = 3 ∨ k = 4 ∨ k = 5 ∨ k = 6 ∨ k = 7 ∨ k = 8 ∨ k = 9 ∨ k = 10 ∨ k = 11 ∨ k = 12 ∨ k = 13 ∨ k = 14 ∨ k = 15 ∨ k = 16 ∨ k = 17 ∨ k = 18 ∨ k = 19 ∨ k = 20 ∨ k = 21 ∨ k = 22 ∨ k = 23) by omega) with rfl | rfl | rfl | rfl | rfl | rfl | rfl | rfl | rfl | rfl | rfl | rfl | rfl | rfl | rfl | rfl | rfl | rfl | rfl | rfl | rfl | rfl | rfl | rfl <;> rfl
theorem xK_set (h : Nat → Nat) (cI cB cR cM cJ : ClassId) (σ : MS) (w : va_W) (g : Nat → Int32) (k : Nat) (hk : k < 24) : (xK h cI cB cR cM cJ σ ++ w).set (k + 2) (h (k + 2), .inl (cI, 61, .inl g)) = xK h cI cB cR cM cJ (setR σ k g) ++ w := by
  rcases (show (k = 0 ∨ k = 1 ∨ k = 2 ∨ k = 3 ∨ k = 4 ∨ k = 5 ∨ k = 6 ∨ k = 7 ∨ k = 8 ∨ k = 9 ∨ k = 10 ∨ k = 11 ∨ k = 12 ∨ k = 13 ∨ k = 14 ∨ k = 15 ∨ k = 16 ∨ k = 17 ∨ k = 18 ∨ k = 19 ∨ k = 20 ∨ k = 21 ∨ k = 22 ∨ k = 23) by omega) with rfl | rfl | rfl | rfl | rfl | rfl | rfl | rfl | rfl | rfl | rfl | rfl | rfl | rfl | rfl | rfl | rfl | rfl | rfl | rfl | rfl | rfl | rfl | rfl <;> rfl
section KF
variable {p : Program} {l : Launch} {e : Env} {R : Room} {s : State} {m : MethodId} {args : Array Value} {below : List Frame} {meth : Method} {c : Code} {H : Heap} {locs : List Loc} {cells slots : Nat} {Q : State → Prop}
variable {cc : ByteArray} {pc : Nat} {ls : Array Slot} {rest : List Value} {D : va_G} {A : Nat → Prop} {H0 : Heap} {nL idx : Nat} {Ts : List Cond} {own : String} {h : Nat → Nat} {f : Nat → Int32} {tys : List (ClassId × FieldType)} {wm : va_W}
theorem Kg_0 (S : CallFix p m c cc nL s args Ts own) (hin : ∀ w ∈ wsX00, w ∈ Ts) (hK : va_K D vwCl tys s) (hP : va_P D vwCl wm H) (q0 : Nat) (he : wm[q0]? = some (h 0, .inr (0, xKF h f))) (hf : (Cond.fieldLink own idx "PenniesAway$Acts" "before" "[[I").before args s = true) (hdg : decode cc pc = .ok (.getfield idx, 3)) (kk : W p l e R s m args below meth c H locs cells slots Q (F0 m (pc + 3) ls (.ref (h 1) :: rest))) : W p l e R s m args below meth c H locs cells slots Q (F0 m pc ls (.ref (h 0) :: rest)) :=
  va_get (D := D) (ci := 0) (v := .ref (h 1)) (C := RX0) (T := TX0) (N := 3) S.1 S.2.1 S.2.2.2.2 hin S.2.2.2.1 hK hP q0 he rfl 0 (by decide) hf (fun _ h9 => h9) rfl hdg kk
theorem Kg_1 (S : CallFix p m c cc nL s args Ts own) (hin : ∀ w ∈ wsX00, w ∈ Ts) (hK : va_K D vwCl tys s) (hP : va_P D vwCl wm H) (q0 : Nat) (he : wm[q0]? = some (h 0, .inr (0, xKF h f))) (hf : (Cond.fieldLink own idx "PenniesAway$Acts" "next" "I").before args s = true) (hdg : decode cc pc = .ok (.getfield idx, 3)) (kk : W p l e R s m args below meth c H locs cells slots Q (F0 m (pc + 3) ls (.int (f 1) :: rest))) : W p l e R s m args below meth c H locs cells slots Q (F0 m pc ls (.ref (h 0) :: rest)) :=
  va_get (D := D) (ci := 0) (v := .int (f 1)) (C := RX0) (T := TX0) (N := 3) S.1 S.2.1 S.2.2.2.2 hin S.2.2.2.1 hK hP q0 he rfl 1 (by decide) hf (fun _ h9 => h9) rfl hdg kk
theorem Kp_1 {x : Int32} (S : CallFix p m c cc nL s args Ts own) (hin : ∀ w ∈ wsX00, w ∈ Ts) (hK : va_K D vwCl tys s) (hP : va_P D vwCl wm H) (hD : va_D A wm) (hS : va_S A H0 H locs) (q0 : Nat) (he : wm[q0]? = some (h 0, .inr (0, xKF h f))) (hf : (Cond.fieldLink own idx "PenniesAway$Acts" "next" "I").before args s = true) (hdg : decode cc pc = .ok (.putfield idx, 3)) (kk : ∀ (H1 : Heap) (locs1 : List Loc), va_P D vwCl (wm.set q0 (h 0, .inr (0, xKF h (va_up f 1 x)))) H1 → va_D A (wm.set q0 (h 0, .inr (0, xKF h (va_up f 1 x)))) → va_S A H0 H1 locs1 → W p l e R s m args below meth c H1 locs1 cells slots Q (F0 m (pc + 3) ls rest)) : W p l e R s m args below meth c H locs cells slots Q (F0 m pc ls (.int x :: .ref (h 0) :: rest)) :=
  va_put (D := D) (ci := 0) (v := .int x) (ty := .int) (C := RX0) (T := TX0) (N := 3) S.1 S.2.1 S.2.2.2.2 hin tyX0 tyX0_ok nmX0 S.2.2.2.1 hK hP hD hS q0 he rfl 1 (by decide) hf (fun _ h9 => h9) rfl (by decide +kernel) rfl rfl (Nat.le_of_ble_eq_true rfl) hdg kk
theorem Kg_2 (S : CallFix p m c cc nL s args Ts own) (hin : ∀ w ∈ wsX00, w ∈ Ts) (hK : va_K D vwCl tys s) (hP : va_P D vwCl wm H) (q0 : Nat) (he : wm[q0]? = some (h 0, .inr (0, xKF h f))) (hf : (Cond.fieldLink own idx "PenniesAway$Acts" "kept" "I").before args s = true) (hdg : decode cc pc = .ok (.getfield idx, 3)) (kk : W p l e R s m args below meth c H locs cells slots Q (F0 m (pc + 3) ls (.int (f 2) :: rest))) : W p l e R s m args below meth c H locs cells slots Q (F0 m pc ls (.ref (h 0) :: rest)) :=
  va_get (D := D) (ci := 0) (v := .int (f 2)) (C := RX0) (T := TX0) (N := 3) S.1 S.2.1 S.2.2.2.2 hin S.2.2.2.1 hK hP q0 he rfl 2 (by decide) hf (fun _ h9 => h9) rfl hdg kk
theorem Kp_2 {x : Int32} (S : CallFix p m c cc nL s args Ts own) (hin : ∀ w ∈ wsX00, w ∈ Ts) (hK : va_K D vwCl tys s) (hP : va_P D vwCl wm H) (hD : va_D A wm) (hS : va_S A H0 H locs) (q0 : Nat) (he : wm[q0]? = some (h 0, .inr (0, xKF h f))) (hf : (Cond.fieldLink own idx "PenniesAway$Acts" "kept" "I").before args s = true) (hdg : decode cc pc = .ok (.putfield idx, 3)) (kk : ∀ (H1 : Heap) (locs1 : List Loc), va_P D vwCl (wm.set q0 (h 0, .inr (0, xKF h (va_up f 2 x)))) H1 → va_D A (wm.set q0 (h 0, .inr (0, xKF h (va_up f 2 x)))) → va_S A H0 H1 locs1 → W p l e R s m args below meth c H1 locs1 cells slots Q (F0 m (pc + 3) ls rest)) : W p l e R s m args below meth c H locs cells slots Q (F0 m pc ls (.int x :: .ref (h 0) :: rest)) :=
  va_put (D := D) (ci := 0) (v := .int x) (ty := .int) (C := RX0) (T := TX0) (N := 3) S.1 S.2.1 S.2.2.2.2 hin tyX0 tyX0_ok nmX0 S.2.2.2.1 hK hP hD hS q0 he rfl 2 (by decide) hf (fun _ h9 => h9) rfl (by decide +kernel) rfl rfl (Nat.le_of_ble_eq_true rfl) hdg kk
theorem va_aldA {a : Nat} (hexec : p.tables.exec = Jvm.exec) (hb : c.code = cc) (hK : va_K D vwCl tys s) (hP : va_P D vwCl wm H) (q0 t0 : Nat) {cA : ClassId} {n : Nat} {f : Nat → Option Nat} (ha : wm[q0]? = some (a, .inl (cA, n, .inr (.inr (.inr (.inr f)))))) (ht : tys[t0]? = some (cA, .array .int)) {i : Int32} (hin : vp_in i n) (hdg : decode cc pc = .ok (.aaload, 1))
    (kk : W p l e R s m args below meth c H locs cells slots Q (F0 m (pc + 1) ls (va_rf (f i.toNatClampNeg) :: rest))) : W p l e R s m args below meth c H locs cells slots Q (F0 m pc ls (.int i :: .ref a :: rest)) := by
  have hlt : i.toNatClampNeg < n := Nat.not_le.mp fun q => hin (Or.inr q)
  exact W.aald (v := va_rf (f i.toNatClampNeg)) (ty := .array .int) hexec hb (hP q0 _ ha) ((hK.2 t0 _ ht).1 n (fun j => va_rf (f j))) rfl (fun q => by cases q) (by show ¬ (i < 0 ∨ (arrV _ _ _).slots.size ≤ _); rw [arrV_size]; exact hin) (by show (arrV _ _ _).slots[_]? = _; rw [arrV_read _ _ hlt]) rfl rfl hdg kk
end KF
def FK_forgetAll (σK : MS) : Option MS := some (setF (setF σK 1 0) 2 0)
set_option maxHeartbeats 4000000 in
set_option maxRecDepth 100000 in
theorem kK_forgetAll (l : Launch) (D : va_G) (uK : Nat → Nat) (cI cB cR cM cJ : ClassId) (t : Nat → Nat) (σK σK' : MS) (hf : FK_forgetAll σK = some σK') : KZ l D (ctys cI cB cR cM cJ) t yX0_forgetAll wsX0_forgetAll 0 0 [.ref (uK 0)] (xK uK cI cB cR cM cJ σK) none (xK uK cI cB cR cM cJ σK') := by
  refine KZ.ofV (own := RX0) (cc := cX0_forgetAll) (maxL := 1) (by decide) rfl rfl (Nat.le_of_ble_eq_true rfl) ?_
  intro p e s m args below meth c R Q A ls S hRf hRl hK hA hP hD hS hl hZ hret
  obtain ⟨hx, hb, hml, hown, hts⟩ := id S
  have hin : ∀ w ∈ wsX00, w ∈ wsX0_forgetAll := fun w hw => List.mem_cons_of_mem _ (List.mem_append_right _ hw)
  have f16 := hts (.fieldLink RX0 16 "PenniesAway$Acts" "next" "I") (by decide +kernel)
  have f20 := hts (.fieldLink RX0 20 "PenniesAway$Acts" "kept" "I") (by decide +kernel)
  have hl : lv_has ls 1 [(0, .ref (uK 0))] := hl
  cases hf
  refine lv_aload_n hx hb dX0_forgetAll_0 rfl (lv_at hl 0 rfl) ?_
  refine lv_iconst (v := 0) hx hb dX0_forgetAll_1 (by decide) ?_
  refine Kp_1 S hin hK hP hD hS 0 rfl f16 dX0_forgetAll_2 (fun H locs hP hD hS => ?_)
  replace hP : va_P D vwCl (xK uK cI cB cR cM cJ (setF σK 1 0)) H := hP
  replace hD : va_D A (xK uK cI cB cR cM cJ (setF σK 1 0)) := hD
  refine lv_aload_n hx hb dX0_forgetAll_5 rfl (lv_at hl 0 rfl) ?_
  refine lv_iconst (v := 0) hx hb dX0_forgetAll_6 (by decide) ?_
  refine Kp_2 S hin hK hP hD hS 0 rfl f20 dX0_forgetAll_7 (fun H locs hP hD hS => ?_)
  exact hret _ _ _ _ hP hD hS dX0_forgetAll_10
def FK_keep (σK σV : MS) : Option MS :=
  gd (¬ ((σK.1 1 : Int32) < 0 ∨ 24 ≤ Int32.toNatClampNeg (σK.1 1))) (nm (setR σK (Int32.toNatClampNeg (σK.1 1)) (va_cpy (σV.2 0) (σK.2 (Int32.toNatClampNeg (σK.1 1))) 0 0 61)) fun (σ1 : MS) =>
    nm (setF σ1 1 ((σ1.1 1 + 1) - (σ1.1 1 + 1) / 24 * 24)) fun (σ2 : MS) => nm (setF σ2 2 (if (24 : Int32) < σ2.1 2 + 1 then 24 else σ2.1 2 + 1)) fun (σ3 : MS) => some σ3)
set_option maxHeartbeats 4000000 in
set_option maxRecDepth 100000 in
theorem kK_keep (l : Launch) (D : va_G) (uK uV : Nat → Nat) (cI cB cR cM cJ : ClassId) (t : Nat → Nat) (σK σV σK' : MS) (hf : FK_keep σK σV = some σK') : KZ l D (ctys cI cB cR cM cJ) t yX0_keep wsX0_keep 1 60 [.ref (uK 0), .ref (uV 1)] (xK uK cI cB cR cM cJ σK ++ xV uV cI cB cR cM cJ σV) none (xK uK cI cB cR cM cJ σK' ++ xV uV cI cB cR cM cJ σV) := by
  refine KZ.ofV (own := RX0) (cc := cX0_keep) (maxL := 2) (by decide) rfl rfl (Nat.le_of_ble_eq_true rfl) ?_
  intro p e s m args below meth c R Q A ls S hRf hRl hK hA hP hD hS hl hZ hret
  obtain ⟨hx, hb, hml, hown, hts⟩ := id S
  have hin : ∀ w ∈ wsX00, w ∈ wsX0_keep := fun w hw => List.mem_cons_of_mem _ (List.mem_append_right _ hw)
  have f13 := hts (.fieldLink RX0 13 "PenniesAway$Acts" "before" "[[I") (by decide +kernel)
  have f16 := hts (.fieldLink RX0 16 "PenniesAway$Acts" "next" "I") (by decide +kernel)
  have f20 := hts (.fieldLink RX0 20 "PenniesAway$Acts" "kept" "I") (by decide +kernel)
  have ml23 := hts (.methodLink RX0 23 arraycopyName) (by decide +kernel)
  have cnat := hts (.native arraycopyName) (by decide +kernel)
  have csta := hts (.static arraycopyName) (by decide +kernel)
  have cini := hts (.initialized "java/lang/System") (by decide +kernel)
  have ml29 := hts (.methodLink RX0 29 Lib.Math.min.name) (by decide +kernel)
  have msmin := hts (.static Lib.Math.min.name) (by decide +kernel)
  have mini := hts (.initialized "java/lang/Math") (by decide +kernel)
  have mcmin := hts (.code Lib.Math.min.name Lib.Math.min.code 2 (some .int)) (by decide +kernel)
  have hl : lv_has ls 2 [(0, .ref (uK 0)), (1, .ref (uV 1))] := hl
  unfold FK_keep at hf
  obtain ⟨g1, hf⟩ := gd_some hf
  have hk : Int32.toNatClampNeg (σK.1 1) < 24 := Nat.not_le.mp (fun q => g1 (Or.inr q))
  refine lv_aload_n hx hb dX0_keep_0 rfl (lv_at hl 1 rfl) ?_
  refine lv_iconst (v := 0) hx hb dX0_keep_1 (by decide) ?_
  refine lv_aload_n hx hb dX0_keep_2 rfl (lv_at hl 0 rfl) ?_
  refine Kg_0 S hin hK hP 0 rfl f13 dX0_keep_3 ?_
  refine lv_aload_n hx hb dX0_keep_6 rfl (lv_at hl 0 rfl) ?_
  refine Kg_1 S hin hK hP 0 rfl f16 dX0_keep_7 ?_
  refine va_aldA (f := kRefs 24 (fun i => uK (i + 2))) (n := 24) (cA := cJ) hx hb hK hP 1 4 rfl rfl g1 dX0_keep_10 ?_
  refine W.eq (g2 := F0 m 11 ls [.ref (uK (Int32.toNatClampNeg (σK.1 1) + 2)), .int 0, .ref (uV 1)]) (by rw [kRefs, if_pos hk]; rfl) ?_
  refine lv_iconst (v := 0) hx hb dX0_keep_11 (by decide) ?_
  refine lv_bipush (v := 61) hx hb dX0_keep_12 (by decide) ?_
  refine va_copyi (f := σV.2 0) (g := σK.2 (Int32.toNatClampNeg (σK.1 1))) (n0 := 61) (n1 := 61) (c0 := cI) (c1 := cI) (ty := .int) hx hb (hml.trans hl.1.symm) hown ml23 cnat csta cini hK hP hD hS 26 (Int32.toNatClampNeg (σK.1 1) + 2) 0 0 rfl (xK_at uK cI cB cR cM cJ σK _ _ hk) rfl rfl rfl (by decide) (by decide) (by decide) (by decide) (by decide) (fun _ _ => rfl) (by rw [hRf]; decide) (by rw [hRl]; exact Nat.le_of_ble_eq_true rfl) dX0_keep_14 (fun H locs hP hD hS => ?_)
  rw [xK_set uK cI cB cR cM cJ σK _ _ _ hk] at hP hD
  obtain ⟨σ1, e1, hf⟩ := nm_some hf
  replace hP : va_P D vwCl (xK uK cI cB cR cM cJ σ1 ++ xV uV cI cB cR cM cJ σV) H := by rw [e1]; exact hP
  replace hD : va_D A (xK uK cI cB cR cM cJ σ1 ++ xV uV cI cB cR cM cJ σV) := by rw [e1]; exact hD
  refine lv_aload_n hx hb dX0_keep_17 rfl (lv_at hl 0 rfl) ?_
  refine lv_aload_n hx hb dX0_keep_18 rfl (lv_at hl 0 rfl) ?_
  refine Kg_1 S hin hK hP 0 rfl f16 dX0_keep_19 ?_
  refine lv_iconst (v := 1) hx hb dX0_keep_22 (by decide) ?_
  refine lv_iadd hx hb dX0_keep_23 ?_
  refine lv_bipush (v := 24) hx hb dX0_keep_24 (by decide) ?_
  refine lv_irem hx hb dX0_keep_26 (by decide) ?_
  refine Kp_1 S hin hK hP hD hS 0 rfl f16 dX0_keep_27 (fun H locs hP hD hS => ?_)
  obtain ⟨σ2, e2, hf⟩ := nm_some hf
  replace hP : va_P D vwCl (xK uK cI cB cR cM cJ σ2 ++ xV uV cI cB cR cM cJ σV) H := by rw [e2]; exact hP
  replace hD : va_D A (xK uK cI cB cR cM cJ σ2 ++ xV uV cI cB cR cM cJ σV) := by rw [e2]; exact hD
  refine lv_aload_n hx hb dX0_keep_30 rfl (lv_at hl 0 rfl) ?_
  refine lv_aload_n hx hb dX0_keep_31 rfl (lv_at hl 0 rfl) ?_
  refine Kg_2 S hin hK hP 0 rfl f20 dX0_keep_32 ?_
  refine lv_iconst (v := 1) hx hb dX0_keep_35 (by decide) ?_
  refine lv_iadd hx hb dX0_keep_36 ?_
  refine lv_bipush (v := 24) hx hb dX0_keep_37 (by decide) ?_
  refine va_mmin hx hb (hml.trans hl.1.symm) hown ml29 msmin mini mcmin (by rw [hRf]; decide) (by rw [hRl]; exact Nat.le_of_ble_eq_true rfl) (Nat.zero_le _) (Nat.zero_le _) dX0_keep_39 ?_
  refine Kp_2 S hin hK hP hD hS 0 rfl f20 dX0_keep_42 (fun H locs hP hD hS => ?_)
  obtain ⟨σ3, e3, hf⟩ := nm_some hf
  replace hP : va_P D vwCl (xK uK cI cB cR cM cJ σ3 ++ xV uV cI cB cR cM cJ σV) H := by rw [e3]; exact hP
  replace hD : va_D A (xK uK cI cB cR cM cJ σ3 ++ xV uV cI cB cR cM cJ σV) := by rw [e3]; exact hD
  cases hf
  exact hret _ _ _ _ hP hD hS dX0_keep_45
def FK_takeBack (σK σV : MS) : Option (MS × MS) :=
  nm (setF σK 1 ((σK.1 1 + 24 - 1) - (σK.1 1 + 24 - 1) / 24 * 24)) fun (σ1 : MS) => gd (¬ ((σ1.1 1 : Int32) < 0 ∨ 24 ≤ Int32.toNatClampNeg (σ1.1 1))) (
    nm (setR σV 0 (va_cpy (σ1.2 (Int32.toNatClampNeg (σ1.1 1))) (σV.2 0) 0 0 61)) fun (τ1 : MS) => nm (setF σ1 2 (σ1.1 2 - 1)) fun (σ2 : MS) => some (σ2, τ1))
set_option maxHeartbeats 4000000 in
set_option maxRecDepth 100000 in
theorem kK_takeBack (l : Launch) (D : va_G) (uK uV : Nat → Nat) (cI cB cR cM cJ : ClassId) (t : Nat → Nat) (σK σV σK' σV' : MS) (hf : FK_takeBack σK σV = some (σK', σV')) : KZ l D (ctys cI cB cR cM cJ) t yX0_takeBack wsX0_takeBack 1 60 [.ref (uK 0), .ref (uV 1)] (xK uK cI cB cR cM cJ σK ++ xV uV cI cB cR cM cJ σV) none (xK uK cI cB cR cM cJ σK' ++ xV uV cI cB cR cM cJ σV') := by
  refine KZ.ofV (own := RX0) (cc := cX0_takeBack) (maxL := 2) (by decide) rfl rfl (Nat.le_of_ble_eq_true rfl) ?_
  intro p e s m args below meth c R Q A ls S hRf hRl hK hA hP hD hS hl hZ hret
  obtain ⟨hx, hb, hml, hown, hts⟩ := id S
  have hin : ∀ w ∈ wsX00, w ∈ wsX0_takeBack := fun w hw => List.mem_cons_of_mem _ (List.mem_append_right _ hw)
  have f13 := hts (.fieldLink RX0 13 "PenniesAway$Acts" "before" "[[I") (by decide +kernel)
  have f16 := hts (.fieldLink RX0 16 "PenniesAway$Acts" "next" "I") (by decide +kernel)
  have f20 := hts (.fieldLink RX0 20 "PenniesAway$Acts" "kept" "I") (by decide +kernel)
  have ml23 := hts (.methodLink RX0 23 arraycopyName) (by decide +kernel)
  have cnat := hts (.native arraycopyName) (by decide +kernel)
  have csta := hts (.static arraycopyName) (by decide +kernel)
  have cini := hts (.initialized "java/lang/System") (by decide +kernel)
  have hl : lv_has ls 2 [(0, .ref (uK 0)), (1, .ref (uV 1))] := hl
  unfold FK_takeBack at hf
  refine lv_aload_n hx hb dX0_takeBack_0 rfl (lv_at hl 0 rfl) ?_
  refine lv_aload_n hx hb dX0_takeBack_1 rfl (lv_at hl 0 rfl) ?_
  refine Kg_1 S hin hK hP 0 rfl f16 dX0_takeBack_2 ?_
  refine lv_bipush (v := 24) hx hb dX0_takeBack_5 (by decide) ?_
  refine lv_iadd hx hb dX0_takeBack_7 ?_
  refine lv_iconst (v := 1) hx hb dX0_takeBack_8 (by decide) ?_
  refine lv_isub hx hb dX0_takeBack_9 ?_
  refine lv_bipush (v := 24) hx hb dX0_takeBack_10 (by decide) ?_
  refine lv_irem hx hb dX0_takeBack_12 (by decide) ?_
  refine Kp_1 S hin hK hP hD hS 0 rfl f16 dX0_takeBack_13 (fun H locs hP hD hS => ?_)
  obtain ⟨σ1, e1, hf⟩ := nm_some hf
  replace hP : va_P D vwCl (xK uK cI cB cR cM cJ σ1 ++ xV uV cI cB cR cM cJ σV) H := by rw [e1]; exact hP
  replace hD : va_D A (xK uK cI cB cR cM cJ σ1 ++ xV uV cI cB cR cM cJ σV) := by rw [e1]; exact hD
  obtain ⟨g1, hf⟩ := gd_some hf
  have hk : Int32.toNatClampNeg (σ1.1 1) < 24 := Nat.not_le.mp (fun q => g1 (Or.inr q))
  refine lv_aload_n hx hb dX0_takeBack_16 rfl (lv_at hl 0 rfl) ?_
  refine Kg_0 S hin hK hP 0 rfl f13 dX0_takeBack_17 ?_
  refine lv_aload_n hx hb dX0_takeBack_20 rfl (lv_at hl 0 rfl) ?_
  refine Kg_1 S hin hK hP 0 rfl f16 dX0_takeBack_21 ?_
  refine va_aldA (f := kRefs 24 (fun i => uK (i + 2))) (n := 24) (cA := cJ) hx hb hK hP 1 4 rfl rfl g1 dX0_takeBack_24 ?_
  refine W.eq (g2 := F0 m 25 ls [.ref (uK (Int32.toNatClampNeg (σ1.1 1) + 2))]) (by rw [kRefs, if_pos hk]; rfl) ?_
  refine lv_iconst (v := 0) hx hb dX0_takeBack_25 (by decide) ?_
  refine lv_aload_n hx hb dX0_takeBack_26 rfl (lv_at hl 1 rfl) ?_
  refine lv_iconst (v := 0) hx hb dX0_takeBack_27 (by decide) ?_
  refine lv_bipush (v := 61) hx hb dX0_takeBack_28 (by decide) ?_
  refine va_copyi (f := σ1.2 (Int32.toNatClampNeg (σ1.1 1))) (g := σV.2 0) (n0 := 61) (n1 := 61) (c0 := cI) (c1 := cI) (ty := .int) hx hb (hml.trans hl.1.symm) hown ml23 cnat csta cini hK hP hD hS (Int32.toNatClampNeg (σ1.1 1) + 2) 26 0 0 (xK_at uK cI cB cR cM cJ σ1 _ _ hk) rfl rfl rfl rfl (by decide) (by decide) (by decide) (by decide) (by decide) (fun _ _ => rfl) (by rw [hRf]; decide) (by rw [hRl]; exact Nat.le_of_ble_eq_true rfl) dX0_takeBack_30 (fun H locs hP hD hS => ?_)
  obtain ⟨τ1, e2, hf⟩ := nm_some hf
  replace hP : va_P D vwCl (xK uK cI cB cR cM cJ σ1 ++ xV uV cI cB cR cM cJ τ1) H := by rw [e2]; exact hP
  replace hD : va_D A (xK uK cI cB cR cM cJ σ1 ++ xV uV cI cB cR cM cJ τ1) := by rw [e2]; exact hD
  refine lv_aload_n hx hb dX0_takeBack_33 rfl (lv_at hl 0 rfl) ?_
  refine lv_dup hx hb dX0_takeBack_34 rfl ?_
  refine Kg_2 S hin hK hP 0 rfl f20 dX0_takeBack_35 ?_
  refine lv_iconst (v := 1) hx hb dX0_takeBack_38 (by decide) ?_
  refine lv_isub hx hb dX0_takeBack_39 ?_
  refine Kp_2 S hin hK hP hD hS 0 rfl f20 dX0_takeBack_40 (fun H locs hP hD hS => ?_)
  obtain ⟨σ2, e3, hf⟩ := nm_some hf
  replace hP : va_P D vwCl (xK uK cI cB cR cM cJ σ2 ++ xV uV cI cB cR cM cJ τ1) H := by rw [e3]; exact hP
  replace hD : va_D A (xK uK cI cB cR cM cJ σ2 ++ xV uV cI cB cR cM cJ τ1) := by rw [e3]; exact hD
  cases hf
  exact hret _ _ _ _ hP hD hS dX0_takeBack_43
