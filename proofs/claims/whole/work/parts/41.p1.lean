section KZW
variable {p : Program} {l : Launch} {e : Env} {R : Room} {s : State} {m : MethodId} {args : Array Value} {below : List Frame} {meth : Method} {c : Code} {H : Heap} {locs : List Loc} {Q : State → Prop}
variable {cc : ByteArray} {pc : Nat} {ls : Array Slot} {rest st : List Value} {D : va_G} {A : Nat → Prop} {tys : List (ClassId × FieldType)} {t : Nat → Nat} {Ts ws ws' : List Cond} {own C : String} {index maxL nL fr lo Rf Rl : Nat} {y : MethodName} {bytes : ByteArray} {ret : Option FieldType} {v : Option Value} {w1 wm : va_W} {lv : List (Nat × Value)}
/-- a call over the whole world -/
theorem kz_w {b ci q0 n : Nat} {qq : vw_C} {fs : List Value} (S : CallFix p m c cc nL s args Ts own) (hRf : R.frames = Rf) (hRl : R.locals = Rl) (hK : va_K D vwCl tys s) (hA : ∀ q, s.heap.size ≤ q → A q) (hZ : ZZ t A s) (hP : va_P D vwCl wm H) (hD : va_D A wm) (hS : va_S A s.heap H locs) (hl : lv_has ls nL lv) (As rest : List Value)
    (hM : KZ l D tys t y ws fr lo (.ref b :: As) wm v w1) (hT : GoodIn Ts (wsV own index C y ws)) (hw : ws = Cond.code y bytes maxL ret :: ws')
    (hd : y.cls = C ∧ y.cls ≠ "java/lang/invoke/MethodHandle" ∧ y.cls ≠ "java/lang/invoke/VarHandle" ∧ (parseMethodDescriptor y.desc).map (fun d => d.parameters.length) = some n) (hn : As.length = n) (hR : fr + 1 ≤ Rf ∧ 8 + (maxL + 11) + lo ≤ Rl)
    (hc : vwCl[ci]? = some qq) (hqC : qq.1 = C) (he : wm[q0]? = some (b, .inr (ci, fs))) (hstack : st = As.reverse ++ .ref b :: rest) (hst : (rest.map fun v => v.category).sum ≤ 8) (hdg : decode cc pc = .ok (.invokevirtual index, 3))
    (kk : ∀ (H1 : Heap) (locs1 : List Loc), va_P D vwCl w1 H1 → va_D A w1 → va_S A s.heap H1 locs1 → W p l e R s m args below meth c H1 locs1 0 0 Q (F0 m (pc + 3) ls (v.toList ++ rest))) : W p l e R s m args below meth c H locs 0 0 Q (F0 m pc ls st) := by
  have hF := kF_all hA hD hS
  refine kc_go (va_runV (As := As) (rest := rest) S (hM H.size) (cwV n S.2.2.2.2 hT hw rfl rfl hd ⟨by rw [hRf]; exact hR.1, by rw [hRl]; exact hR.2⟩) ⟨fun a U g mk q => ?_, ?_, fun U hU hW => ⟨rfl, by rw [hU], by rw [hU]; exact hP, va_K.moved hW.alike hK, hD.weaken (fun _ _ _ _ => trivial), hZ.go hS hU hW hF⟩⟩ rfl hn hl.1 hstack (lv_room hst) hdg ⟨Nat.zero_le _, Nat.zero_le _⟩) hS hF kk
  · obtain ⟨q0, q1, qP, qK, qD, qZ⟩ := q
    exact ⟨q0, q1, qP, va_K.moved (u := U) (U := U.calling g mk a) (Vm.Alike.refl U.vm) qK, qD, qZ.blind rfl rfl⟩
  · rw [← hqC]; exact va_recv hK hP hc he
end KZW
def FP_found (σP : MS) (a1 : Int32) : Option (Int32 × MS) :=
  nm (setF σP 9 a1) fun (σ1 : MS) => some (((-1000010) - a1), σ1)
set_option maxHeartbeats 4000000 in
set_option maxRecDepth 100000 in
theorem kP_found (l : Launch) (D : va_G) (uP uL uG uR uT uC uA uK : Nat → Nat) (uW uI : Nat → Nat → Nat) (cI cB cR cM cJ : ClassId) (t : Nat → Nat) (σP σL σG σR σT σC σA σK : MS) (ω ι : Nat → MS) (a1 : Int32) (r : Int32) (σP' : MS) (hf : FP_found σP a1 = some (r, σP')) : KZ l D (ctys cI cB cR cM cJ) t yX8_found wsX8_found 0 0 [.ref (uP 0), .int a1] (pw uP uL uG uR uT uC uA uK uW uI cI cB cR cM cJ σP σL σG σR σT σC σA σK ω ι) (some (.int r)) (pw uP uL uG uR uT uC uA uK uW uI cI cB cR cM cJ σP' σL σG σR σT σC σA σK ω ι) := by
  refine KZ.ofI (own := RX8) (cc := cX8_found) (maxL := 2) (by decide) rfl rfl (Nat.le_of_ble_eq_true rfl) ?_
  intro p e s m args below meth c R Q A ls S hRf hRl hK hA hP hD hS hl hZ hret
  obtain ⟨hx, hb, hml, hown, hts⟩ := id S
  have f64 := hts (.fieldLink RX8 64 "PenniesAway" "latestFinding" "I") (by decide +kernel)
  have hinX8 : ∀ w ∈ wsX80, w ∈ wsX8_found := fun w hw => List.mem_cons_of_mem _ (List.mem_append_right _ hw)
  have c281 := hts (.constant RX8 281 (-1000010)) (by decide +kernel)
  have hl : lv_has ls 2 [(0, .ref (uP 0)), (1, .int a1)] := hl
  have hre : ∀ (x : Int32) (τP : MS) (pc : Nat) (ls : Array Slot) (H : Heap) (locs : List Loc), (some (x, τP) : Option (Int32 × MS)) = some (r, σP') → va_P D vwCl (pw uP uL uG uR uT uC uA uK uW uI cI cB cR cM cJ τP σL σG σR σT σC σA σK ω ι) H → va_D A (pw uP uL uG uR uT uC uA uK uW uI cI cB cR cM cJ τP σL σG σR σT σC σA σK ω ι) → va_S A s.heap H locs → decode cX8_found pc = .ok (.ireturn, 1) → W p l e R s m args below meth c H locs 0 0 Q (F0 m pc ls [.int x]) := by intro x τP pc ls H locs he; cases he; exact hret pc ls H locs
  unfold FP_found at hf
  refine lv_aload_n hx hb dX8_found_0 rfl (lv_at hl 0 rfl) ?_
  refine lv_iload_n hx hb dX8_found_1 rfl (lv_at hl 1 rfl) ?_
  refine Pp_9 S hinX8 hK hP hD hS f64 dX8_found_2 (fun H locs hP hD hS => ?_)
  obtain ⟨σ1, eσ1, hf⟩ := nm_some hf
  rw [← eσ1] at hP hD
  refine lv_ldcw (v := (-1000010)) hx hb hown c281 dX8_found_5 ?_
  refine lv_iload_n hx hb dX8_found_8 rfl (lv_at hl 1 rfl) ?_
  refine lv_isub hx hb dX8_found_9 ?_
  exact hre _ _ _ _ _ _ hf hP hD hS dX8_found_10
def FP_answered (σP : MS) (a1 : Int32) : Option (Int32 × MS) :=
  nm (setF σP 9 0) fun (σ1 : MS) => some (a1, σ1)
set_option maxHeartbeats 4000000 in
set_option maxRecDepth 100000 in
theorem kP_answered (l : Launch) (D : va_G) (uP uL uG uR uT uC uA uK : Nat → Nat) (uW uI : Nat → Nat → Nat) (cI cB cR cM cJ : ClassId) (t : Nat → Nat) (σP σL σG σR σT σC σA σK : MS) (ω ι : Nat → MS) (a1 : Int32) (r : Int32) (σP' : MS) (hf : FP_answered σP a1 = some (r, σP')) : KZ l D (ctys cI cB cR cM cJ) t yX8_answered wsX8_answered 0 0 [.ref (uP 0), .int a1] (pw uP uL uG uR uT uC uA uK uW uI cI cB cR cM cJ σP σL σG σR σT σC σA σK ω ι) (some (.int r)) (pw uP uL uG uR uT uC uA uK uW uI cI cB cR cM cJ σP' σL σG σR σT σC σA σK ω ι) := by
  refine KZ.ofI (own := RX8) (cc := cX8_answered) (maxL := 2) (by decide) rfl rfl (Nat.le_of_ble_eq_true rfl) ?_
  intro p e s m args below meth c R Q A ls S hRf hRl hK hA hP hD hS hl hZ hret
  obtain ⟨hx, hb, hml, hown, hts⟩ := id S
  have f64 := hts (.fieldLink RX8 64 "PenniesAway" "latestFinding" "I") (by decide +kernel)
  have hinX8 : ∀ w ∈ wsX80, w ∈ wsX8_answered := fun w hw => List.mem_cons_of_mem _ (List.mem_append_right _ hw)
  have hl : lv_has ls 2 [(0, .ref (uP 0)), (1, .int a1)] := hl
  have hre : ∀ (x : Int32) (τP : MS) (pc : Nat) (ls : Array Slot) (H : Heap) (locs : List Loc), (some (x, τP) : Option (Int32 × MS)) = some (r, σP') → va_P D vwCl (pw uP uL uG uR uT uC uA uK uW uI cI cB cR cM cJ τP σL σG σR σT σC σA σK ω ι) H → va_D A (pw uP uL uG uR uT uC uA uK uW uI cI cB cR cM cJ τP σL σG σR σT σC σA σK ω ι) → va_S A s.heap H locs → decode cX8_answered pc = .ok (.ireturn, 1) → W p l e R s m args below meth c H locs 0 0 Q (F0 m pc ls [.int x]) := by intro x τP pc ls H locs he; cases he; exact hret pc ls H locs
  unfold FP_answered at hf
  refine lv_aload_n hx hb dX8_answered_0 rfl (lv_at hl 0 rfl) ?_
  refine lv_iconst (v := 0) hx hb dX8_answered_1 (by decide) ?_
  refine Pp_9 S hinX8 hK hP hD hS f64 dX8_answered_2 (fun H locs hP hD hS => ?_)
  obtain ⟨σ1, eσ1, hf⟩ := nm_some hf
  rw [← eσ1] at hP hD
  refine lv_iload_n hx hb dX8_answered_5 rfl (lv_at hl 1 rfl) ?_
  exact hre _ _ _ _ _ _ hf hP hD hS dX8_answered_6
def FP_row (σP : MS) (ω : (Nat → MS)) (a1 : Int32) (a2 : Int32) (a3 : Int32) : Option (Int32 × MS × (Nat → MS)) :=
  Option.bind (FP_noRow a1) fun (r1 : Int32) => if r1 = 0 then (Option.bind (FP_outside a2 0 2) fun (r3 : Int32) => if r3 = 0 then (if a3 ≤ 40 then (if 0 ≤ a3 then (gd (¬ ((a1 : Int32) < 0 ∨ 8 ≤ Int32.toNatClampNeg a1)) (gd ((Int32.toNatClampNeg a1) < 8) (Option.bind (FW_lay (ω (Int32.toNatClampNeg a1)) a2 a3) fun (τ10 : MS) => nm (va_up ω (Int32.toNatClampNeg a1) τ10) fun (ω11 : (Nat → MS)) => bd2 (FP_answered σP a3) fun (r12 : Int32) (σ13 : MS) => some (r12, σ13, ω11)))) else (bd2 (FP_found σP 4) fun (r14 : Int32) (σ15 : MS) => some (r14, σ15, ω))) else (some ((-1000001), σP, ω))) else (some ((-1000001), σP, ω))) else (some ((-1000001), σP, ω))
set_option maxHeartbeats 4000000 in
set_option maxRecDepth 100000 in
theorem kP_row (l : Launch) (D : va_G) (uP uL uG uR uT uC uA uK : Nat → Nat) (uW uI : Nat → Nat → Nat) (cI cB cR cM cJ : ClassId) (t : Nat → Nat) (σP σL σG σR σT σC σA σK : MS) (ω ι : Nat → MS) (a1 : Int32) (a2 : Int32) (a3 : Int32) (r : Int32) (σP' : MS) (ω' : (Nat → MS)) (hf : FP_row σP ω a1 a2 a3 = some (r, σP', ω')) : KZ l D (ctys cI cB cR cM cJ) t yX8_row wsX8_row 2 45 [.ref (uP 0), .int a1, .int a2, .int a3] (pw uP uL uG uR uT uC uA uK uW uI cI cB cR cM cJ σP σL σG σR σT σC σA σK ω ι) (some (.int r)) (pw uP uL uG uR uT uC uA uK uW uI cI cB cR cM cJ σP' σL σG σR σT σC σA σK ω' ι) := by
  refine KZ.ofI (own := RX8) (cc := cX8_row) (maxL := 4) (by decide) rfl rfl (Nat.le_of_ble_eq_true rfl) ?_
  intro p e s m args below meth c R Q A ls S hRf hRl hK hA hP hD hS hl hZ hret
  obtain ⟨hx, hb, hml, hown, hts⟩ := id S
  have c80 := hts (.constant RX8 80 (-1000001)) (by decide +kernel)
  have f11 := hts (.fieldLink RX8 11 "PenniesAway" "rows" "[LPenniesAway$Row;") (by decide +kernel)
  have hinX8 : ∀ w ∈ wsX80, w ∈ wsX8_row := fun w hw => List.mem_cons_of_mem _ (List.mem_append_left _ (List.mem_append_right _ hw))
  have hl : lv_has ls 4 [(0, .ref (uP 0)), (1, .int a1), (2, .int a2), (3, .int a3)] := hl
  have hre : ∀ (x : Int32) (τP : MS) (τW : (Nat → MS)) (pc : Nat) (ls : Array Slot) (H : Heap) (locs : List Loc), (some (x, τP, τW) : Option (Int32 × MS × (Nat → MS))) = some (r, σP', ω') → va_P D vwCl (pw uP uL uG uR uT uC uA uK uW uI cI cB cR cM cJ τP σL σG σR σT σC σA σK τW ι) H → va_D A (pw uP uL uG uR uT uC uA uK uW uI cI cB cR cM cJ τP σL σG σR σT σC σA σK τW ι) → va_S A s.heap H locs → decode cX8_row pc = .ok (.ireturn, 1) → W p l e R s m args below meth c H locs 0 0 Q (F0 m pc ls [.int x]) := by intro x τP τW pc ls H locs he; cases he; exact hret pc ls H locs
  unfold FP_row at hf
  refine lv_iload_n hx hb dX8_row_0 rfl (lv_at hl 1 rfl) ?_
  obtain ⟨r1, hr1, hf⟩ := bi_some hf
  refine kz_s (n := 1) S hRf hRl hK hA hZ hP hD hS hl [] [.int a1] [] (kP_noRow l D cI cB cR cM cJ t [] a1 r1 hr1) rfl rfl rfl gX8_row_X8_noRow rfl (by decide +kernel) rfl ⟨by decide, by decide⟩ rfl (Nat.le_of_ble_eq_true rfl) dX8_row_1 (fun H locs hP hD hS => ?_)
  replace hP : va_P D vwCl (pw uP uL uG uR uT uC uA uK uW uI cI cB cR cM cJ σP σL σG σR σT σC σA σK ω ι) H := hP
  replace hD : va_D A (pw uP uL uG uR uT uC uA uK uW uI cI cB cR cM cJ σP σL σG σR σT σC σA σK ω ι) := hD
  refine W.eq (g2 := F0 m 4 ls [.int r1]) rfl ?_
  refine lv_if_ne (tgt := 22) hx hb dX8_row_4 (by decide) (fun c2 => ?_) (fun c2 => ?_)
  · have hf := (if_neg c2).symm.trans hf
    refine lv_ldc (v := (-1000001)) hx hb hown c80 dX8_row_22 ?_
    exact hre _ _ _ _ _ _ _ hf hP hD hS dX8_row_24
  · have hf := (if_pos c2).symm.trans hf
    refine lv_iload_n hx hb dX8_row_7 rfl (lv_at hl 2 rfl) ?_
    refine lv_iconst (v := 0) hx hb dX8_row_8 (by decide) ?_
    refine lv_iconst (v := 2) hx hb dX8_row_9 (by decide) ?_
    obtain ⟨r3, hr3, hf⟩ := bi_some hf
    refine kz_s (n := 3) S hRf hRl hK hA hZ hP hD hS hl [] [.int a2, .int 0, .int 2] [] (kP_outside l D cI cB cR cM cJ t [] a2 0 2 r3 hr3) rfl rfl rfl gX8_row_X8_outside rfl (by decide +kernel) rfl ⟨by decide, by decide⟩ rfl (Nat.le_of_ble_eq_true rfl) dX8_row_10 (fun H locs hP hD hS => ?_)
    replace hP : va_P D vwCl (pw uP uL uG uR uT uC uA uK uW uI cI cB cR cM cJ σP σL σG σR σT σC σA σK ω ι) H := hP
    replace hD : va_D A (pw uP uL uG uR uT uC uA uK uW uI cI cB cR cM cJ σP σL σG σR σT σC σA σK ω ι) := hD
    refine W.eq (g2 := F0 m 13 ls [.int r3]) rfl ?_
    refine lv_if_ne (tgt := 22) hx hb dX8_row_13 (by decide) (fun c4 => ?_) (fun c4 => ?_)
    · have hf := (if_neg c4).symm.trans hf
      refine lv_ldc (v := (-1000001)) hx hb hown c80 dX8_row_22 ?_
      exact hre _ _ _ _ _ _ _ hf hP hD hS dX8_row_24
    · have hf := (if_pos c4).symm.trans hf
      refine lv_iload_n hx hb dX8_row_16 rfl (lv_at hl 3 rfl) ?_
      refine lv_bipush (v := 40) hx hb dX8_row_17 (by decide) ?_
      refine lv_icmp_le (tgt := 25) hx hb dX8_row_19 (by decide) (fun c5 => ?_) (fun c5 => ?_)
      · have hf := (if_pos c5).symm.trans hf
        refine lv_iload_n hx hb dX8_row_25 rfl (lv_at hl 3 rfl) ?_
        refine lv_if_ge (tgt := 35) hx hb dX8_row_26 (by decide) (fun c6 => ?_) (fun c6 => ?_)
        · have hf := (if_pos c6).symm.trans hf
          refine lv_aload_n hx hb dX8_row_35 rfl (lv_at hl 0 rfl) ?_
          refine Pg_0 S hinX8 hK hP f11 dX8_row_36 ?_
          refine lv_iload_n hx hb dX8_row_39 rfl (lv_at hl 1 rfl) ?_
          obtain ⟨g7, hf⟩ := gd_some hf
          refine va_aldq (f := kRefs 8 (fun i => uW i 0)) (n := 8) (cA := cR) (C := RX6) hx hb hK hP 1 2 rfl rfl g7 dX8_row_40 ?_
          refine W.eq (g2 := F0 m 41 ls [.ref (uW (Int32.toNatClampNeg a1) 0)]) (by rw [kRefs, if_pos (Nat.not_le.mp (fun q => g7 (Or.inr q)))]; rfl) ?_
          refine lv_iload_n hx hb dX8_row_41 rfl (lv_at hl 2 rfl) ?_
          refine lv_iload_n hx hb dX8_row_42 rfl (lv_at hl 3 rfl) ?_
          obtain ⟨k9, hf⟩ := gd_some hf
          obtain ⟨τ10, hr8, hf⟩ := bi_some hf
          refine kz_v (ci := 5) (q0 := 0) (n := 2) S hRf hRl hK hA hZ hP hD hS hl [47 + 2 * (Int32.toNatClampNeg a1), 48 + 2 * (Int32.toNatClampNeg a1)] [.int a2, .int a3] [] (kW_lay l D (uW (Int32.toNatClampNeg a1)) cI cB cR cM cJ t (ω (Int32.toNatClampNeg a1)) a2 a3 τ10 hr8) (pw_cW (Int32.toNatClampNeg a1) k9) (pw_nW (Int32.toNatClampNeg a1) k9) rfl gX8_row_X6_lay rfl (by decide +kernel) rfl ⟨by decide, by decide⟩ rfl rfl rfl rfl (Nat.le_of_ble_eq_true rfl) dX8_row_43 (fun H locs hP hD hS => ?_)
          rw [pw_kW (Int32.toNatClampNeg a1) k9] at hP hD
          obtain ⟨ω11, eω11, hf⟩ := nm_some hf
          rw [← eω11] at hP hD
          refine W.eq (g2 := F0 m 46 ls []) rfl ?_
          refine lv_aload_n hx hb dX8_row_46 rfl (lv_at hl 0 rfl) ?_
          refine lv_iload_n hx hb dX8_row_47 rfl (lv_at hl 3 rfl) ?_
          obtain ⟨r12, σ13, hr12, hf⟩ := bd2_some hf
          refine kz_w (ci := 7) (q0 := 0) (n := 1) S hRf hRl hK hA hZ hP hD hS hl [.int a3] [] (kP_answered l D uP uL uG uR uT uC uA uK uW uI cI cB cR cM cJ t σP σL σG σR σT σC σA σK ω11 ι a3 r12 σ13 hr12) gX8_row_X8_answered rfl (by decide +kernel) rfl ⟨by decide, by decide⟩ rfl rfl rfl rfl (Nat.le_of_ble_eq_true rfl) dX8_row_48 (fun H locs hP hD hS => ?_)
          refine W.eq (g2 := F0 m 51 ls [.int r12]) rfl ?_
          exact hre _ _ _ _ _ _ _ hf hP hD hS dX8_row_51
        · have hf := (if_neg c6).symm.trans hf
          refine lv_aload_n hx hb dX8_row_29 rfl (lv_at hl 0 rfl) ?_
          refine lv_iconst (v := 4) hx hb dX8_row_30 (by decide) ?_
          obtain ⟨r14, σ15, hr14, hf⟩ := bd2_some hf
          refine kz_w (ci := 7) (q0 := 0) (n := 1) S hRf hRl hK hA hZ hP hD hS hl [.int 4] [] (kP_found l D uP uL uG uR uT uC uA uK uW uI cI cB cR cM cJ t σP σL σG σR σT σC σA σK ω ι 4 r14 σ15 hr14) gX8_row_X8_found rfl (by decide +kernel) rfl ⟨by decide, by decide⟩ rfl rfl rfl rfl (Nat.le_of_ble_eq_true rfl) dX8_row_31 (fun H locs hP hD hS => ?_)
          refine W.eq (g2 := F0 m 34 ls [.int r14]) rfl ?_
          exact hre _ _ _ _ _ _ _ hf hP hD hS dX8_row_34
      · have hf := (if_neg c5).symm.trans hf
        refine lv_ldc (v := (-1000001)) hx hb hown c80 dX8_row_22 ?_
        exact hre _ _ _ _ _ _ _ hf hP hD hS dX8_row_24
def FP_set (σP : MS) (ω : (Nat → MS)) (a1 : Int32) (a2 : Int32) (a3 : Int32) : Option (Int32 × MS × (Nat → MS)) :=
  Option.bind (FP_noRow a1) fun (r1 : Int32) => if r1 = 0 then (gd (¬ ((a1 : Int32) < 0 ∨ 8 ≤ Int32.toNatClampNeg a1)) (gd ((Int32.toNatClampNeg a1) < 8) (Option.bind (FW_missing (ω (Int32.toNatClampNeg a1))) fun (r4 : Int32) => if r4 = 0 then (gd ((Int32.toNatClampNeg a1) < 8) (Option.bind (FW_holds (ω (Int32.toNatClampNeg a1)) a2 1) fun (r7 : Int32) => if r7 = 0 then (bd2 (FP_found σP 2) fun (r16 : Int32) (σ17 : MS) => some (r16, σ17, ω)) else (gd ((Int32.toNatClampNeg a1) < 8) (bd2 (FW_put (ω (Int32.toNatClampNeg a1)) a2 a3) fun (r10 : Int32) (τ12 : MS) => nm (va_up ω (Int32.toNatClampNeg a1) τ12) fun (ω13 : (Nat → MS)) => bd2 (FP_answered σP r10) fun (r14 : Int32) (σ15 : MS) => some (r14, σ15, ω13))))) else (bd2 (FP_found σP 1) fun (r18 : Int32) (σ19 : MS) => some (r18, σ19, ω))))) else (some ((-1000001), σP, ω))
set_option maxHeartbeats 4000000 in
set_option maxRecDepth 100000 in
theorem kP_set (l : Launch) (D : va_G) (uP uL uG uR uT uC uA uK : Nat → Nat) (uW uI : Nat → Nat → Nat) (cI cB cR cM cJ : ClassId) (t : Nat → Nat) (σP σL σG σR σT σC σA σK : MS) (ω ι : Nat → MS) (a1 : Int32) (a2 : Int32) (a3 : Int32) (r : Int32) (σP' : MS) (ω' : (Nat → MS)) (hf : FP_set σP ω a1 a2 a3 = some (r, σP', ω')) : KZ l D (ctys cI cB cR cM cJ) t yX8_set wsX8_set 2 42 [.ref (uP 0), .int a1, .int a2, .int a3] (pw uP uL uG uR uT uC uA uK uW uI cI cB cR cM cJ σP σL σG σR σT σC σA σK ω ι) (some (.int r)) (pw uP uL uG uR uT uC uA uK uW uI cI cB cR cM cJ σP' σL σG σR σT σC σA σK ω' ι) := by
  refine KZ.ofI (own := RX8) (cc := cX8_set) (maxL := 5) (by decide) rfl rfl (Nat.le_of_ble_eq_true rfl) ?_
  intro p e s m args below meth c R Q A ls S hRf hRl hK hA hP hD hS hl hZ hret
  obtain ⟨hx, hb, hml, hown, hts⟩ := id S
  have f11 := hts (.fieldLink RX8 11 "PenniesAway" "rows" "[LPenniesAway$Row;") (by decide +kernel)
  have hinX8 : ∀ w ∈ wsX80, w ∈ wsX8_set := fun w hw => List.mem_cons_of_mem _ (List.mem_append_left _ (List.mem_append_right _ hw))
  have c80 := hts (.constant RX8 80 (-1000001)) (by decide +kernel)
  have hl : lv_has ls 5 [(0, .ref (uP 0)), (1, .int a1), (2, .int a2), (3, .int a3)] := hl
  have hre : ∀ (x : Int32) (τP : MS) (τW : (Nat → MS)) (pc : Nat) (ls : Array Slot) (H : Heap) (locs : List Loc), (some (x, τP, τW) : Option (Int32 × MS × (Nat → MS))) = some (r, σP', ω') → va_P D vwCl (pw uP uL uG uR uT uC uA uK uW uI cI cB cR cM cJ τP σL σG σR σT σC σA σK τW ι) H → va_D A (pw uP uL uG uR uT uC uA uK uW uI cI cB cR cM cJ τP σL σG σR σT σC σA σK τW ι) → va_S A s.heap H locs → decode cX8_set pc = .ok (.ireturn, 1) → W p l e R s m args below meth c H locs 0 0 Q (F0 m pc ls [.int x]) := by intro x τP τW pc ls H locs he; cases he; exact hret pc ls H locs
  unfold FP_set at hf
  refine lv_iload_n hx hb dX8_set_0 rfl (lv_at hl 1 rfl) ?_
  obtain ⟨r1, hr1, hf⟩ := bi_some hf
  refine kz_s (n := 1) S hRf hRl hK hA hZ hP hD hS hl [] [.int a1] [] (kP_noRow l D cI cB cR cM cJ t [] a1 r1 hr1) rfl rfl rfl gX8_set_X8_noRow rfl (by decide +kernel) rfl ⟨by decide, by decide⟩ rfl (Nat.le_of_ble_eq_true rfl) dX8_set_1 (fun H locs hP hD hS => ?_)
  replace hP : va_P D vwCl (pw uP uL uG uR uT uC uA uK uW uI cI cB cR cM cJ σP σL σG σR σT σC σA σK ω ι) H := hP
  replace hD : va_D A (pw uP uL uG uR uT uC uA uK uW uI cI cB cR cM cJ σP σL σG σR σT σC σA σK ω ι) := hD
  refine W.eq (g2 := F0 m 4 ls [.int r1]) rfl ?_
  refine lv_if_eq (tgt := 10) hx hb dX8_set_4 (by decide) (fun c2 => ?_) (fun c2 => ?_)
  · have hf := (if_pos c2).symm.trans hf
    refine lv_aload_n hx hb dX8_set_10 rfl (lv_at hl 0 rfl) ?_
    refine Pg_0 S hinX8 hK hP f11 dX8_set_11 ?_
    refine lv_iload_n hx hb dX8_set_14 rfl (lv_at hl 1 rfl) ?_
    obtain ⟨g3, hf⟩ := gd_some hf
    refine va_aldq (f := kRefs 8 (fun i => uW i 0)) (n := 8) (cA := cR) (C := RX6) hx hb hK hP 1 2 rfl rfl g3 dX8_set_15 ?_
    refine W.eq (g2 := F0 m 16 ls [.ref (uW (Int32.toNatClampNeg a1) 0)]) (by rw [kRefs, if_pos (Nat.not_le.mp (fun q => g3 (Or.inr q)))]; rfl) ?_
    refine lv_astore (lv' := [(4, .ref (uW (Int32.toNatClampNeg a1) 0)), (0, .ref (uP 0)), (1, .int a1), (2, .int a2), (3, .int a3)]) hx hb dX8_set_16 hl (by decide) rfl (fun ls hl => ?_)
    refine lv_aload hx hb dX8_set_18 (lv_at hl 0 rfl) ?_
    obtain ⟨k5, hf⟩ := gd_some hf
    obtain ⟨r4, hr4, hf⟩ := bi_some hf
    refine kz_v (ci := 5) (q0 := 0) (n := 0) S hRf hRl hK hA hZ hP hD hS hl [47 + 2 * (Int32.toNatClampNeg a1), 48 + 2 * (Int32.toNatClampNeg a1)] [] [] (kW_missing l D (uW (Int32.toNatClampNeg a1)) cI cB cR cM cJ t (ω (Int32.toNatClampNeg a1)) r4 hr4) (pw_cW (Int32.toNatClampNeg a1) k5) (pw_nW (Int32.toNatClampNeg a1) k5) rfl gX8_set_X6_missing rfl (by decide +kernel) rfl ⟨by decide, by decide⟩ rfl rfl rfl rfl (Nat.le_of_ble_eq_true rfl) dX8_set_20 (fun H locs hP hD hS => ?_)
    rw [pw_kW (Int32.toNatClampNeg a1) k5, va_up_id] at hP hD
    refine W.eq (g2 := F0 m 23 ls [.int r4]) rfl ?_
    refine lv_if_eq (tgt := 32) hx hb dX8_set_23 (by decide) (fun c6 => ?_) (fun c6 => ?_)
    · have hf := (if_pos c6).symm.trans hf
      refine lv_aload hx hb dX8_set_32 (lv_at hl 0 rfl) ?_
      refine lv_iload_n hx hb dX8_set_34 rfl (lv_at hl 3 rfl) ?_
      refine lv_iconst (v := 1) hx hb dX8_set_35 (by decide) ?_
      obtain ⟨k8, hf⟩ := gd_some hf
      obtain ⟨r7, hr7, hf⟩ := bi_some hf
      refine kz_v (ci := 5) (q0 := 0) (n := 2) S hRf hRl hK hA hZ hP hD hS hl [47 + 2 * (Int32.toNatClampNeg a1), 48 + 2 * (Int32.toNatClampNeg a1)] [.int a2, .int 1] [] (kW_holds l D (uW (Int32.toNatClampNeg a1)) cI cB cR cM cJ t (ω (Int32.toNatClampNeg a1)) a2 1 r7 hr7) (pw_cW (Int32.toNatClampNeg a1) k8) (pw_nW (Int32.toNatClampNeg a1) k8) rfl gX8_set_X6_holds rfl (by decide +kernel) rfl ⟨by decide, by decide⟩ rfl rfl rfl rfl (Nat.le_of_ble_eq_true rfl) dX8_set_36 (fun H locs hP hD hS => ?_)
      rw [pw_kW (Int32.toNatClampNeg a1) k8, va_up_id] at hP hD
      refine W.eq (g2 := F0 m 39 ls [.int r7]) rfl ?_
      refine lv_if_ne (tgt := 48) hx hb dX8_set_39 (by decide) (fun c9 => ?_) (fun c9 => ?_)
      · have hf := (if_neg c9).symm.trans hf
        refine lv_aload_n hx hb dX8_set_48 rfl (lv_at hl 1 rfl) ?_
        refine lv_aload hx hb dX8_set_49 (lv_at hl 0 rfl) ?_
        refine lv_iload_n hx hb dX8_set_51 rfl (lv_at hl 3 rfl) ?_
        refine lv_iload_n hx hb dX8_set_52 rfl (lv_at hl 4 rfl) ?_
        obtain ⟨k11, hf⟩ := gd_some hf
        obtain ⟨r10, τ12, hr10, hf⟩ := bd2_some hf
        refine kz_v (ci := 5) (q0 := 0) (n := 2) S hRf hRl hK hA hZ hP hD hS hl [47 + 2 * (Int32.toNatClampNeg a1), 48 + 2 * (Int32.toNatClampNeg a1)] [.int a2, .int a3] [.ref (uP 0)] (kW_put l D (uW (Int32.toNatClampNeg a1)) cI cB cR cM cJ t (ω (Int32.toNatClampNeg a1)) a2 a3 r10 τ12 hr10) (pw_cW (Int32.toNatClampNeg a1) k11) (pw_nW (Int32.toNatClampNeg a1) k11) rfl gX8_set_X6_put rfl (by decide +kernel) rfl ⟨by decide, by decide⟩ rfl rfl rfl rfl (Nat.le_of_ble_eq_true rfl) dX8_set_53 (fun H locs hP hD hS => ?_)
        rw [pw_kW (Int32.toNatClampNeg a1) k11] at hP hD
        obtain ⟨ω13, eω13, hf⟩ := nm_some hf
        rw [← eω13] at hP hD
        refine W.eq (g2 := F0 m 56 ls [.int r10, .ref (uP 0)]) rfl ?_
        obtain ⟨r14, σ15, hr14, hf⟩ := bd2_some hf
        refine kz_w (ci := 7) (q0 := 0) (n := 1) S hRf hRl hK hA hZ hP hD hS hl [.int r10] [] (kP_answered l D uP uL uG uR uT uC uA uK uW uI cI cB cR cM cJ t σP σL σG σR σT σC σA σK ω13 ι r10 r14 σ15 hr14) gX8_set_X8_answered rfl (by decide +kernel) rfl ⟨by decide, by decide⟩ rfl rfl rfl rfl (Nat.le_of_ble_eq_true rfl) dX8_set_56 (fun H locs hP hD hS => ?_)
        refine W.eq (g2 := F0 m 59 ls [.int r14]) rfl ?_
        exact hre _ _ _ _ _ _ _ hf hP hD hS dX8_set_59
      · have hf := (if_pos c9).symm.trans hf
        refine lv_aload_n hx hb dX8_set_42 rfl (lv_at hl 1 rfl) ?_
        refine lv_iconst (v := 2) hx hb dX8_set_43 (by decide) ?_
        obtain ⟨r16, σ17, hr16, hf⟩ := bd2_some hf
        refine kz_w (ci := 7) (q0 := 0) (n := 1) S hRf hRl hK hA hZ hP hD hS hl [.int 2] [] (kP_found l D uP uL uG uR uT uC uA uK uW uI cI cB cR cM cJ t σP σL σG σR σT σC σA σK ω ι 2 r16 σ17 hr16) gX8_set_X8_found rfl (by decide +kernel) rfl ⟨by decide, by decide⟩ rfl rfl rfl rfl (Nat.le_of_ble_eq_true rfl) dX8_set_44 (fun H locs hP hD hS => ?_)
        refine W.eq (g2 := F0 m 47 ls [.int r16]) rfl ?_
        exact hre _ _ _ _ _ _ _ hf hP hD hS dX8_set_47
    · have hf := (if_neg c6).symm.trans hf
      refine lv_aload_n hx hb dX8_set_26 rfl (lv_at hl 1 rfl) ?_
      refine lv_iconst (v := 1) hx hb dX8_set_27 (by decide) ?_
      obtain ⟨r18, σ19, hr18, hf⟩ := bd2_some hf
      refine kz_w (ci := 7) (q0 := 0) (n := 1) S hRf hRl hK hA hZ hP hD hS hl [.int 1] [] (kP_found l D uP uL uG uR uT uC uA uK uW uI cI cB cR cM cJ t σP σL σG σR σT σC σA σK ω ι 1 r18 σ19 hr18) gX8_set_X8_found rfl (by decide +kernel) rfl ⟨by decide, by decide⟩ rfl rfl rfl rfl (Nat.le_of_ble_eq_true rfl) dX8_set_28 (fun H locs hP hD hS => ?_)
      refine W.eq (g2 := F0 m 31 ls [.int r18]) rfl ?_
      exact hre _ _ _ _ _ _ _ hf hP hD hS dX8_set_31
  · have hf := (if_neg c2).symm.trans hf
    refine lv_ldc (v := (-1000001)) hx hb hown c80 dX8_set_7 ?_
    exact hre _ _ _ _ _ _ _ hf hP hD hS dX8_set_9
def FP_copy_49 (σP : MS) (ω : (Nat → MS)) : Option (Int32 × MS × (Nat → MS)) :=
  bd2 (FP_found σP 1) fun (r34 : Int32) (σ35 : MS) => some (r34, σ35, ω)
def FP_copy_97 (σP : MS) (ω : (Nat → MS)) : Option (Int32 × MS × (Nat → MS)) :=
  bd2 (FP_found σP 2) fun (r32 : Int32) (σ33 : MS) => some (r32, σ33, ω)
def FP_copy (σP : MS) (ω : (Nat → MS)) (a1 : Int32) (a2 : Int32) (a3 : Int32) (a4 : Int32) (a5 : Int32) : Option (Int32 × MS × (Nat → MS)) :=
  Option.bind (FP_noRow a1) fun (r1 : Int32) => if r1 = 0 then (Option.bind (FP_noRow a3) fun (r3 : Int32) => if r3 = 0 then (gd (¬ ((a1 : Int32) < 0 ∨ 8 ≤ Int32.toNatClampNeg a1)) (gd (¬ ((a3 : Int32) < 0 ∨ 8 ≤ Int32.toNatClampNeg a3)) (gd ((Int32.toNatClampNeg a1) < 8) (Option.bind (FW_missing (ω (Int32.toNatClampNeg a1))) fun (r7 : Int32) => if r7 = 0 then (gd ((Int32.toNatClampNeg a3) < 8) (Option.bind (FW_missing (ω (Int32.toNatClampNeg a3))) fun (r10 : Int32) => if r10 = 0 then (gd ((Int32.toNatClampNeg a1) < 8) (gd ((Int32.toNatClampNeg a3) < 8) (if ((ω (Int32.toNatClampNeg a1)).1 1) = ((ω (Int32.toNatClampNeg a3)).1 1) then (gd ((Int32.toNatClampNeg a1) < 8) (Option.bind (FW_holds (ω (Int32.toNatClampNeg a1)) a2 a5) fun (r16 : Int32) => if r16 = 0 then (FP_copy_97 σP ω) else (gd ((Int32.toNatClampNeg a3) < 8) (Option.bind (FW_holds (ω (Int32.toNatClampNeg a3)) a4 a5) fun (r19 : Int32) => if r19 = 0 then (FP_copy_97 σP ω) else (gd ((Int32.toNatClampNeg a1) < 8) (gd ((Int32.toNatClampNeg a3) < 8) (gd ((Int32.toNatClampNeg a1) < 8) (gd ((Int32.toNatClampNeg a3) < 8) (gd (¬ (a2 : Int32) < 0 ∧ ¬ (a4 : Int32) < 0 ∧ ¬ (a5 : Int32) < 0 ∧ Int32.toNatClampNeg a2 + Int32.toNatClampNeg a5 ≤ 40 ∧ Int32.toNatClampNeg a4 + Int32.toNatClampNeg a5 ≤ 40) (nm (va_up ω (Int32.toNatClampNeg a3) (setR (ω (Int32.toNatClampNeg a3)) 0 (va_cpy ((ω (Int32.toNatClampNeg a1)).2 0) ((ω (Int32.toNatClampNeg a3)).2 0) (Int32.toNatClampNeg a2) (Int32.toNatClampNeg a4) (Int32.toNatClampNeg a5)))) fun (ω27 : (Nat → MS)) => bd2 (FP_answered σP a5) fun (r28 : Int32) (σ29 : MS) => some (r28, σ29, ω27))))))))))) else (bd2 (FP_found σP 5) fun (r30 : Int32) (σ31 : MS) => some (r30, σ31, ω))))) else (FP_copy_49 σP ω))) else (FP_copy_49 σP ω))))) else (some ((-1000001), σP, ω))) else (some ((-1000001), σP, ω))
set_option maxHeartbeats 4000000 in
set_option maxRecDepth 100000 in
theorem kP_copy (l : Launch) (D : va_G) (uP uL uG uR uT uC uA uK : Nat → Nat) (uW uI : Nat → Nat → Nat) (cI cB cR cM cJ : ClassId) (t : Nat → Nat) (σP σL σG σR σT σC σA σK : MS) (ω ι : Nat → MS) (a1 : Int32) (a2 : Int32) (a3 : Int32) (a4 : Int32) (a5 : Int32) (r : Int32) (σP' : MS) (ω' : (Nat → MS)) (hf : FP_copy σP ω a1 a2 a3 a4 a5 = some (r, σP', ω')) : KZ l D (ctys cI cB cR cM cJ) t yX8_copy wsX8_copy 2 60 [.ref (uP 0), .int a1, .int a2, .int a3, .int a4, .int a5] (pw uP uL uG uR uT uC uA uK uW uI cI cB cR cM cJ σP σL σG σR σT σC σA σK ω ι) (some (.int r)) (pw uP uL uG uR uT uC uA uK uW uI cI cB cR cM cJ σP' σL σG σR σT σC σA σK ω' ι) := by
  refine KZ.ofI (own := RX8) (cc := cX8_copy) (maxL := 8) (by decide) rfl rfl (Nat.le_of_ble_eq_true rfl) ?_
  intro p e s m args below meth c R Q A ls S hRf hRl hK hA hP hD hS hl hZ hret
  obtain ⟨hx, hb, hml, hown, hts⟩ := id S
  have c80 := hts (.constant RX8 80 (-1000001)) (by decide +kernel)
  have f11 := hts (.fieldLink RX8 11 "PenniesAway" "rows" "[LPenniesAway$Row;") (by decide +kernel)
  have hinX8 : ∀ w ∈ wsX80, w ∈ wsX8_copy := fun w hw => List.mem_cons_of_mem _ (List.mem_append_left _ (List.mem_append_right _ hw))
  have f104 := hts (.fieldLink RX8 104 "PenniesAway$Row" "lane" "I") (by decide +kernel)
  have hinX6 : ∀ w ∈ wsX60, w ∈ wsX8_copy := fun w hw => List.mem_cons_of_mem _ (List.mem_append_right _ hw)
  have f107 := hts (.fieldLink RX8 107 "PenniesAway$Row" "items" "[I") (by decide +kernel)
  have ml111 := hts (.methodLink RX8 111 arraycopyName) (by decide +kernel)
  have cnat := hts (.native arraycopyName) (by decide +kernel)
  have csta := hts (.static arraycopyName) (by decide +kernel)
  have cini := hts (.initialized "java/lang/System") (by decide +kernel)
  have hl : lv_has ls 8 [(0, .ref (uP 0)), (1, .int a1), (2, .int a2), (3, .int a3), (4, .int a4), (5, .int a5)] := hl
  have hre : ∀ (x : Int32) (τP : MS) (τW : (Nat → MS)) (pc : Nat) (ls : Array Slot) (H : Heap) (locs : List Loc), (some (x, τP, τW) : Option (Int32 × MS × (Nat → MS))) = some (r, σP', ω') → va_P D vwCl (pw uP uL uG uR uT uC uA uK uW uI cI cB cR cM cJ τP σL σG σR σT σC σA σK τW ι) H → va_D A (pw uP uL uG uR uT uC uA uK uW uI cI cB cR cM cJ τP σL σG σR σT σC σA σK τW ι) → va_S A s.heap H locs → decode cX8_copy pc = .ok (.ireturn, 1) → W p l e R s m args below meth c H locs 0 0 Q (F0 m pc ls [.int x]) := by intro x τP τW pc ls H locs he; cases he; exact hret pc ls H locs
  have b49 : ∀ (σP : MS) (ω : (Nat → MS)) (ls : Array Slot) (H : Heap) (locs : List Loc), FP_copy_49 σP ω = some (r, σP', ω') → lv_has ls 8 [(0, .ref (uP 0))] → va_P D vwCl (pw uP uL uG uR uT uC uA uK uW uI cI cB cR cM cJ σP σL σG σR σT σC σA σK ω ι) H → va_D A (pw uP uL uG uR uT uC uA uK uW uI cI cB cR cM cJ σP σL σG σR σT σC σA σK ω ι) → va_S A s.heap H locs → W p l e R s m args below meth c H locs 0 0 Q (F0 m 49 ls []) := by
    intro σP ω ls H locs hf hl hP hD hS
    unfold FP_copy_49 at hf
    refine lv_aload_n hx hb dX8_copy_49 rfl (lv_at hl 0 rfl) ?_
    refine lv_iconst (v := 1) hx hb dX8_copy_50 (by decide) ?_
    obtain ⟨r34, σ35, hr34, hf⟩ := bd2_some hf
    refine kz_w (ci := 7) (q0 := 0) (n := 1) S hRf hRl hK hA hZ hP hD hS hl [.int 1] [] (kP_found l D uP uL uG uR uT uC uA uK uW uI cI cB cR cM cJ t σP σL σG σR σT σC σA σK ω ι 1 r34 σ35 hr34) gX8_copy_X8_found rfl (by decide +kernel) rfl ⟨by decide, by decide⟩ rfl rfl rfl rfl (Nat.le_of_ble_eq_true rfl) dX8_copy_51 (fun H locs hP hD hS => ?_)
    refine W.eq (g2 := F0 m 54 ls [.int r34]) rfl ?_
    exact hre _ _ _ _ _ _ _ hf hP hD hS dX8_copy_54
  have b97 : ∀ (σP : MS) (ω : (Nat → MS)) (ls : Array Slot) (H : Heap) (locs : List Loc), FP_copy_97 σP ω = some (r, σP', ω') → lv_has ls 8 [(0, .ref (uP 0))] → va_P D vwCl (pw uP uL uG uR uT uC uA uK uW uI cI cB cR cM cJ σP σL σG σR σT σC σA σK ω ι) H → va_D A (pw uP uL uG uR uT uC uA uK uW uI cI cB cR cM cJ σP σL σG σR σT σC σA σK ω ι) → va_S A s.heap H locs → W p l e R s m args below meth c H locs 0 0 Q (F0 m 97 ls []) := by
    intro σP ω ls H locs hf hl hP hD hS
    unfold FP_copy_97 at hf
    refine lv_aload_n hx hb dX8_copy_97 rfl (lv_at hl 0 rfl) ?_
    refine lv_iconst (v := 2) hx hb dX8_copy_98 (by decide) ?_
    obtain ⟨r32, σ33, hr32, hf⟩ := bd2_some hf
    refine kz_w (ci := 7) (q0 := 0) (n := 1) S hRf hRl hK hA hZ hP hD hS hl [.int 2] [] (kP_found l D uP uL uG uR uT uC uA uK uW uI cI cB cR cM cJ t σP σL σG σR σT σC σA σK ω ι 2 r32 σ33 hr32) gX8_copy_X8_found rfl (by decide +kernel) rfl ⟨by decide, by decide⟩ rfl rfl rfl rfl (Nat.le_of_ble_eq_true rfl) dX8_copy_99 (fun H locs hP hD hS => ?_)
    refine W.eq (g2 := F0 m 102 ls [.int r32]) rfl ?_
    exact hre _ _ _ _ _ _ _ hf hP hD hS dX8_copy_102
  unfold FP_copy at hf
  refine lv_iload_n hx hb dX8_copy_0 rfl (lv_at hl 1 rfl) ?_
  obtain ⟨r1, hr1, hf⟩ := bi_some hf
  refine kz_s (n := 1) S hRf hRl hK hA hZ hP hD hS hl [] [.int a1] [] (kP_noRow l D cI cB cR cM cJ t [] a1 r1 hr1) rfl rfl rfl gX8_copy_X8_noRow rfl (by decide +kernel) rfl ⟨by decide, by decide⟩ rfl (Nat.le_of_ble_eq_true rfl) dX8_copy_1 (fun H locs hP hD hS => ?_)
  replace hP : va_P D vwCl (pw uP uL uG uR uT uC uA uK uW uI cI cB cR cM cJ σP σL σG σR σT σC σA σK ω ι) H := hP
  replace hD : va_D A (pw uP uL uG uR uT uC uA uK uW uI cI cB cR cM cJ σP σL σG σR σT σC σA σK ω ι) := hD
  refine W.eq (g2 := F0 m 4 ls [.int r1]) rfl ?_
  refine lv_if_ne (tgt := 14) hx hb dX8_copy_4 (by decide) (fun c2 => ?_) (fun c2 => ?_)
  · have hf := (if_neg c2).symm.trans hf
    refine lv_ldc (v := (-1000001)) hx hb hown c80 dX8_copy_14 ?_
    exact hre _ _ _ _ _ _ _ hf hP hD hS dX8_copy_16
  · have hf := (if_pos c2).symm.trans hf
    refine lv_iload_n hx hb dX8_copy_7 rfl (lv_at hl 3 rfl) ?_
    obtain ⟨r3, hr3, hf⟩ := bi_some hf
    refine kz_s (n := 1) S hRf hRl hK hA hZ hP hD hS hl [] [.int a3] [] (kP_noRow l D cI cB cR cM cJ t [] a3 r3 hr3) rfl rfl rfl gX8_copy_X8_noRow rfl (by decide +kernel) rfl ⟨by decide, by decide⟩ rfl (Nat.le_of_ble_eq_true rfl) dX8_copy_8 (fun H locs hP hD hS => ?_)
    replace hP : va_P D vwCl (pw uP uL uG uR uT uC uA uK uW uI cI cB cR cM cJ σP σL σG σR σT σC σA σK ω ι) H := hP
    replace hD : va_D A (pw uP uL uG uR uT uC uA uK uW uI cI cB cR cM cJ σP σL σG σR σT σC σA σK ω ι) := hD
    refine W.eq (g2 := F0 m 11 ls [.int r3]) rfl ?_
    refine lv_if_eq (tgt := 17) hx hb dX8_copy_11 (by decide) (fun c4 => ?_) (fun c4 => ?_)
    · have hf := (if_pos c4).symm.trans hf
      refine lv_aload_n hx hb dX8_copy_17 rfl (lv_at hl 0 rfl) ?_
      refine Pg_0 S hinX8 hK hP f11 dX8_copy_18 ?_
      refine lv_iload_n hx hb dX8_copy_21 rfl (lv_at hl 1 rfl) ?_
      obtain ⟨g5, hf⟩ := gd_some hf
      refine va_aldq (f := kRefs 8 (fun i => uW i 0)) (n := 8) (cA := cR) (C := RX6) hx hb hK hP 1 2 rfl rfl g5 dX8_copy_22 ?_
      refine W.eq (g2 := F0 m 23 ls [.ref (uW (Int32.toNatClampNeg a1) 0)]) (by rw [kRefs, if_pos (Nat.not_le.mp (fun q => g5 (Or.inr q)))]; rfl) ?_
      refine lv_astore (lv' := [(6, .ref (uW (Int32.toNatClampNeg a1) 0)), (0, .ref (uP 0)), (1, .int a1), (2, .int a2), (3, .int a3), (4, .int a4), (5, .int a5)]) hx hb dX8_copy_23 hl (by decide) rfl (fun ls hl => ?_)
      refine lv_aload_n hx hb dX8_copy_25 rfl (lv_at hl 1 rfl) ?_
      refine Pg_0 S hinX8 hK hP f11 dX8_copy_26 ?_
      refine lv_iload_n hx hb dX8_copy_29 rfl (lv_at hl 4 rfl) ?_
      obtain ⟨g6, hf⟩ := gd_some hf
      refine va_aldq (f := kRefs 8 (fun i => uW i 0)) (n := 8) (cA := cR) (C := RX6) hx hb hK hP 1 2 rfl rfl g6 dX8_copy_30 ?_
      refine W.eq (g2 := F0 m 31 ls [.ref (uW (Int32.toNatClampNeg a3) 0)]) (by rw [kRefs, if_pos (Nat.not_le.mp (fun q => g6 (Or.inr q)))]; rfl) ?_
      refine lv_astore (lv' := [(7, .ref (uW (Int32.toNatClampNeg a3) 0)), (6, .ref (uW (Int32.toNatClampNeg a1) 0)), (0, .ref (uP 0)), (1, .int a1), (2, .int a2), (3, .int a3), (4, .int a4), (5, .int a5)]) hx hb dX8_copy_31 hl (by decide) rfl (fun ls hl => ?_)
      refine lv_aload hx hb dX8_copy_33 (lv_at hl 1 rfl) ?_
      obtain ⟨k8, hf⟩ := gd_some hf
      obtain ⟨r7, hr7, hf⟩ := bi_some hf
      refine kz_v (ci := 5) (q0 := 0) (n := 0) S hRf hRl hK hA hZ hP hD hS hl [47 + 2 * (Int32.toNatClampNeg a1), 48 + 2 * (Int32.toNatClampNeg a1)] [] [] (kW_missing l D (uW (Int32.toNatClampNeg a1)) cI cB cR cM cJ t (ω (Int32.toNatClampNeg a1)) r7 hr7) (pw_cW (Int32.toNatClampNeg a1) k8) (pw_nW (Int32.toNatClampNeg a1) k8) rfl gX8_copy_X6_missing rfl (by decide +kernel) rfl ⟨by decide, by decide⟩ rfl rfl rfl rfl (Nat.le_of_ble_eq_true rfl) dX8_copy_35 (fun H locs hP hD hS => ?_)
      rw [pw_kW (Int32.toNatClampNeg a1) k8, va_up_id] at hP hD
      refine W.eq (g2 := F0 m 38 ls [.int r7]) rfl ?_
      refine lv_if_ne (tgt := 49) hx hb dX8_copy_38 (by decide) (fun c9 => ?_) (fun c9 => ?_)
      · have hf := (if_neg c9).symm.trans hf
        exact b49 _ _ _ _ _ hf (lv_sub hl [2] rfl) hP hD hS
      · have hf := (if_pos c9).symm.trans hf
        refine lv_aload hx hb dX8_copy_41 (lv_at hl 0 rfl) ?_
        obtain ⟨k11, hf⟩ := gd_some hf
        obtain ⟨r10, hr10, hf⟩ := bi_some hf
        refine kz_v (ci := 5) (q0 := 0) (n := 0) S hRf hRl hK hA hZ hP hD hS hl [47 + 2 * (Int32.toNatClampNeg a3), 48 + 2 * (Int32.toNatClampNeg a3)] [] [] (kW_missing l D (uW (Int32.toNatClampNeg a3)) cI cB cR cM cJ t (ω (Int32.toNatClampNeg a3)) r10 hr10) (pw_cW (Int32.toNatClampNeg a3) k11) (pw_nW (Int32.toNatClampNeg a3) k11) rfl gX8_copy_X6_missing rfl (by decide +kernel) rfl ⟨by decide, by decide⟩ rfl rfl rfl rfl (Nat.le_of_ble_eq_true rfl) dX8_copy_43 (fun H locs hP hD hS => ?_)
        rw [pw_kW (Int32.toNatClampNeg a3) k11, va_up_id] at hP hD
        refine W.eq (g2 := F0 m 46 ls [.int r10]) rfl ?_
        refine lv_if_eq (tgt := 55) hx hb dX8_copy_46 (by decide) (fun c12 => ?_) (fun c12 => ?_)
        · have hf := (if_pos c12).symm.trans hf
          refine lv_aload hx hb dX8_copy_55 (lv_at hl 1 rfl) ?_
          obtain ⟨k13, hf⟩ := gd_some hf
          refine Wg_1 S hinX6 hK hP (47 + 2 * (Int32.toNatClampNeg a1)) (pw_rowAt (Int32.toNatClampNeg a1) k13) f104 dX8_copy_57 ?_
          refine lv_aload hx hb dX8_copy_60 (lv_at hl 0 rfl) ?_
          obtain ⟨k14, hf⟩ := gd_some hf
          refine Wg_1 S hinX6 hK hP (47 + 2 * (Int32.toNatClampNeg a3)) (pw_rowAt (Int32.toNatClampNeg a3) k14) f104 dX8_copy_62 ?_
          refine lv_icmp_eq (tgt := 74) hx hb dX8_copy_65 (by decide) (fun c15 => ?_) (fun c15 => ?_)
          · have hf := (if_pos c15).symm.trans hf
            refine lv_aload hx hb dX8_copy_74 (lv_at hl 1 rfl) ?_
            refine lv_iload_n hx hb dX8_copy_76 rfl (lv_at hl 4 rfl) ?_
            refine lv_iload hx hb dX8_copy_77 (lv_at hl 7 rfl) ?_
            obtain ⟨k17, hf⟩ := gd_some hf
            obtain ⟨r16, hr16, hf⟩ := bi_some hf
            refine kz_v (ci := 5) (q0 := 0) (n := 2) S hRf hRl hK hA hZ hP hD hS hl [47 + 2 * (Int32.toNatClampNeg a1), 48 + 2 * (Int32.toNatClampNeg a1)] [.int a2, .int a5] [] (kW_holds l D (uW (Int32.toNatClampNeg a1)) cI cB cR cM cJ t (ω (Int32.toNatClampNeg a1)) a2 a5 r16 hr16) (pw_cW (Int32.toNatClampNeg a1) k17) (pw_nW (Int32.toNatClampNeg a1) k17) rfl gX8_copy_X6_holds rfl (by decide +kernel) rfl ⟨by decide, by decide⟩ rfl rfl rfl rfl (Nat.le_of_ble_eq_true rfl) dX8_copy_79 (fun H locs hP hD hS => ?_)
            rw [pw_kW (Int32.toNatClampNeg a1) k17, va_up_id] at hP hD
            refine W.eq (g2 := F0 m 82 ls [.int r16]) rfl ?_
            refine lv_if_eq (tgt := 97) hx hb dX8_copy_82 (by decide) (fun c18 => ?_) (fun c18 => ?_)
            · have hf := (if_pos c18).symm.trans hf
              exact b97 _ _ _ _ _ hf (lv_sub hl [2] rfl) hP hD hS
            · have hf := (if_neg c18).symm.trans hf
              refine lv_aload hx hb dX8_copy_85 (lv_at hl 0 rfl) ?_
              refine lv_iload hx hb dX8_copy_87 (lv_at hl 6 rfl) ?_
              refine lv_iload hx hb dX8_copy_89 (lv_at hl 7 rfl) ?_
              obtain ⟨k20, hf⟩ := gd_some hf
              obtain ⟨r19, hr19, hf⟩ := bi_some hf
              refine kz_v (ci := 5) (q0 := 0) (n := 2) S hRf hRl hK hA hZ hP hD hS hl [47 + 2 * (Int32.toNatClampNeg a3), 48 + 2 * (Int32.toNatClampNeg a3)] [.int a4, .int a5] [] (kW_holds l D (uW (Int32.toNatClampNeg a3)) cI cB cR cM cJ t (ω (Int32.toNatClampNeg a3)) a4 a5 r19 hr19) (pw_cW (Int32.toNatClampNeg a3) k20) (pw_nW (Int32.toNatClampNeg a3) k20) rfl gX8_copy_X6_holds rfl (by decide +kernel) rfl ⟨by decide, by decide⟩ rfl rfl rfl rfl (Nat.le_of_ble_eq_true rfl) dX8_copy_91 (fun H locs hP hD hS => ?_)
              rw [pw_kW (Int32.toNatClampNeg a3) k20, va_up_id] at hP hD
              refine W.eq (g2 := F0 m 94 ls [.int r19]) rfl ?_
              refine lv_if_ne (tgt := 103) hx hb dX8_copy_94 (by decide) (fun c21 => ?_) (fun c21 => ?_)
              · have hf := (if_neg c21).symm.trans hf
                refine lv_aload hx hb dX8_copy_103 (lv_at hl 1 rfl) ?_
                obtain ⟨k22, hf⟩ := gd_some hf
                refine Wg_0 S hinX6 hK hP (47 + 2 * (Int32.toNatClampNeg a1)) (pw_rowAt (Int32.toNatClampNeg a1) k22) f107 dX8_copy_105 ?_
                refine lv_iload_n hx hb dX8_copy_108 rfl (lv_at hl 4 rfl) ?_
                refine lv_aload hx hb dX8_copy_109 (lv_at hl 0 rfl) ?_
                obtain ⟨k23, hf⟩ := gd_some hf
                refine Wg_0 S hinX6 hK hP (47 + 2 * (Int32.toNatClampNeg a3)) (pw_rowAt (Int32.toNatClampNeg a3) k23) f107 dX8_copy_111 ?_
                refine lv_iload hx hb dX8_copy_114 (lv_at hl 6 rfl) ?_
                refine lv_iload hx hb dX8_copy_116 (lv_at hl 7 rfl) ?_
                obtain ⟨k24, hf⟩ := gd_some hf
                obtain ⟨k25, hf⟩ := gd_some hf
                obtain ⟨g26, hf⟩ := gd_some hf
                refine va_copyi (f := (ω (Int32.toNatClampNeg a1)).2 0) (g := (ω (Int32.toNatClampNeg a3)).2 0) (n0 := 40) (n1 := 40) (c0 := cI) (c1 := cI) (ty := .int) hx hb (hml.trans hl.1.symm) hown ml111 cnat csta cini hK hP hD hS (48 + 2 * (Int32.toNatClampNeg a1)) (48 + 2 * (Int32.toNatClampNeg a3)) 0 0 (pw_itAt (Int32.toNatClampNeg a1) k24) (pw_itAt (Int32.toNatClampNeg a3) k25) rfl rfl rfl g26.1 g26.2.1 g26.2.2.1 g26.2.2.2.1 g26.2.2.2.2 (fun _ _ => rfl) (by rw [hRf]; decide) (by rw [hRl]; exact Nat.le_of_ble_eq_true rfl) dX8_copy_118 (fun H locs hP hD hS => ?_)
                rw [pw_itS _ (Int32.toNatClampNeg a3) k25] at hP hD
                obtain ⟨ω27, eω27, hf⟩ := nm_some hf
                rw [← eω27] at hP hD
                refine lv_aload_n hx hb dX8_copy_121 rfl (lv_at hl 2 rfl) ?_
                refine lv_iload hx hb dX8_copy_122 (lv_at hl 7 rfl) ?_
                obtain ⟨r28, σ29, hr28, hf⟩ := bd2_some hf
                refine kz_w (ci := 7) (q0 := 0) (n := 1) S hRf hRl hK hA hZ hP hD hS hl [.int a5] [] (kP_answered l D uP uL uG uR uT uC uA uK uW uI cI cB cR cM cJ t σP σL σG σR σT σC σA σK ω27 ι a5 r28 σ29 hr28) gX8_copy_X8_answered rfl (by decide +kernel) rfl ⟨by decide, by decide⟩ rfl rfl rfl rfl (Nat.le_of_ble_eq_true rfl) dX8_copy_124 (fun H locs hP hD hS => ?_)
                refine W.eq (g2 := F0 m 127 ls [.int r28]) rfl ?_
                exact hre _ _ _ _ _ _ _ hf hP hD hS dX8_copy_127
              · have hf := (if_pos c21).symm.trans hf
                exact b97 _ _ _ _ _ hf (lv_sub hl [2] rfl) hP hD hS
          · have hf := (if_neg c15).symm.trans hf
            refine lv_aload_n hx hb dX8_copy_68 rfl (lv_at hl 2 rfl) ?_
            refine lv_iconst (v := 5) hx hb dX8_copy_69 (by decide) ?_
            obtain ⟨r30, σ31, hr30, hf⟩ := bd2_some hf
            refine kz_w (ci := 7) (q0 := 0) (n := 1) S hRf hRl hK hA hZ hP hD hS hl [.int 5] [] (kP_found l D uP uL uG uR uT uC uA uK uW uI cI cB cR cM cJ t σP σL σG σR σT σC σA σK ω ι 5 r30 σ31 hr30) gX8_copy_X8_found rfl (by decide +kernel) rfl ⟨by decide, by decide⟩ rfl rfl rfl rfl (Nat.le_of_ble_eq_true rfl) dX8_copy_70 (fun H locs hP hD hS => ?_)
            refine W.eq (g2 := F0 m 73 ls [.int r30]) rfl ?_
            exact hre _ _ _ _ _ _ _ hf hP hD hS dX8_copy_73
        · have hf := (if_neg c12).symm.trans hf
          exact b49 _ _ _ _ _ hf (lv_sub hl [2] rfl) hP hD hS
    · have hf := (if_neg c4).symm.trans hf
      refine lv_ldc (v := (-1000001)) hx hb hown c80 dX8_copy_14 ?_
      exact hre _ _ _ _ _ _ _ hf hP hD hS dX8_copy_16
def FP_drop (σP : MS) (ω : (Nat → MS)) (a1 : Int32) : Option (Int32 × MS × (Nat → MS)) :=
  Option.bind (FP_noRow a1) fun (r1 : Int32) => if r1 = 0 then (gd (¬ ((a1 : Int32) < 0 ∨ 8 ≤ Int32.toNatClampNeg a1)) (gd ((Int32.toNatClampNeg a1) < 8) (Option.bind (FW_missing (ω (Int32.toNatClampNeg a1))) fun (r4 : Int32) => if r4 = 0 then (gd ((Int32.toNatClampNeg a1) < 8) (nm ((ω (Int32.toNatClampNeg a1)).1 2) fun (x8 : Int32) => gd ((Int32.toNatClampNeg a1) < 8) (Option.bind (FW_takeAway (ω (Int32.toNatClampNeg a1))) fun (τ11 : MS) => nm (va_up ω (Int32.toNatClampNeg a1) τ11) fun (ω12 : (Nat → MS)) => bd2 (FP_answered σP x8) fun (r13 : Int32) (σ14 : MS) => some (r13, σ14, ω12)))) else (bd2 (FP_found σP 1) fun (r15 : Int32) (σ16 : MS) => some (r15, σ16, ω))))) else (some ((-1000001), σP, ω))
set_option maxHeartbeats 4000000 in
set_option maxRecDepth 100000 in
theorem kP_drop (l : Launch) (D : va_G) (uP uL uG uR uT uC uA uK : Nat → Nat) (uW uI : Nat → Nat → Nat) (cI cB cR cM cJ : ClassId) (t : Nat → Nat) (σP σL σG σR σT σC σA σK : MS) (ω ι : Nat → MS) (a1 : Int32) (r : Int32) (σP' : MS) (ω' : (Nat → MS)) (hf : FP_drop σP ω a1 = some (r, σP', ω')) : KZ l D (ctys cI cB cR cM cJ) t yX8_drop wsX8_drop 2 42 [.ref (uP 0), .int a1] (pw uP uL uG uR uT uC uA uK uW uI cI cB cR cM cJ σP σL σG σR σT σC σA σK ω ι) (some (.int r)) (pw uP uL uG uR uT uC uA uK uW uI cI cB cR cM cJ σP' σL σG σR σT σC σA σK ω' ι) := by
  refine KZ.ofI (own := RX8) (cc := cX8_drop) (maxL := 4) (by decide) rfl rfl (Nat.le_of_ble_eq_true rfl) ?_
  intro p e s m args below meth c R Q A ls S hRf hRl hK hA hP hD hS hl hZ hret
  obtain ⟨hx, hb, hml, hown, hts⟩ := id S
  have f11 := hts (.fieldLink RX8 11 "PenniesAway" "rows" "[LPenniesAway$Row;") (by decide +kernel)
  have hinX8 : ∀ w ∈ wsX80, w ∈ wsX8_drop := fun w hw => List.mem_cons_of_mem _ (List.mem_append_left _ (List.mem_append_right _ hw))
  have f117 := hts (.fieldLink RX8 117 "PenniesAway$Row" "size" "I") (by decide +kernel)
  have hinX6 : ∀ w ∈ wsX60, w ∈ wsX8_drop := fun w hw => List.mem_cons_of_mem _ (List.mem_append_right _ hw)
  have c80 := hts (.constant RX8 80 (-1000001)) (by decide +kernel)
  have hl : lv_has ls 4 [(0, .ref (uP 0)), (1, .int a1)] := hl
  have hre : ∀ (x : Int32) (τP : MS) (τW : (Nat → MS)) (pc : Nat) (ls : Array Slot) (H : Heap) (locs : List Loc), (some (x, τP, τW) : Option (Int32 × MS × (Nat → MS))) = some (r, σP', ω') → va_P D vwCl (pw uP uL uG uR uT uC uA uK uW uI cI cB cR cM cJ τP σL σG σR σT σC σA σK τW ι) H → va_D A (pw uP uL uG uR uT uC uA uK uW uI cI cB cR cM cJ τP σL σG σR σT σC σA σK τW ι) → va_S A s.heap H locs → decode cX8_drop pc = .ok (.ireturn, 1) → W p l e R s m args below meth c H locs 0 0 Q (F0 m pc ls [.int x]) := by intro x τP τW pc ls H locs he; cases he; exact hret pc ls H locs
  unfold FP_drop at hf
  refine lv_iload_n hx hb dX8_drop_0 rfl (lv_at hl 1 rfl) ?_
  obtain ⟨r1, hr1, hf⟩ := bi_some hf
  refine kz_s (n := 1) S hRf hRl hK hA hZ hP hD hS hl [] [.int a1] [] (kP_noRow l D cI cB cR cM cJ t [] a1 r1 hr1) rfl rfl rfl gX8_drop_X8_noRow rfl (by decide +kernel) rfl ⟨by decide, by decide⟩ rfl (Nat.le_of_ble_eq_true rfl) dX8_drop_1 (fun H locs hP hD hS => ?_)
  replace hP : va_P D vwCl (pw uP uL uG uR uT uC uA uK uW uI cI cB cR cM cJ σP σL σG σR σT σC σA σK ω ι) H := hP
  replace hD : va_D A (pw uP uL uG uR uT uC uA uK uW uI cI cB cR cM cJ σP σL σG σR σT σC σA σK ω ι) := hD
  refine W.eq (g2 := F0 m 4 ls [.int r1]) rfl ?_
  refine lv_if_eq (tgt := 10) hx hb dX8_drop_4 (by decide) (fun c2 => ?_) (fun c2 => ?_)
  · have hf := (if_pos c2).symm.trans hf
    refine lv_aload_n hx hb dX8_drop_10 rfl (lv_at hl 0 rfl) ?_
    refine Pg_0 S hinX8 hK hP f11 dX8_drop_11 ?_
    refine lv_iload_n hx hb dX8_drop_14 rfl (lv_at hl 1 rfl) ?_
    obtain ⟨g3, hf⟩ := gd_some hf
    refine va_aldq (f := kRefs 8 (fun i => uW i 0)) (n := 8) (cA := cR) (C := RX6) hx hb hK hP 1 2 rfl rfl g3 dX8_drop_15 ?_
    refine W.eq (g2 := F0 m 16 ls [.ref (uW (Int32.toNatClampNeg a1) 0)]) (by rw [kRefs, if_pos (Nat.not_le.mp (fun q => g3 (Or.inr q)))]; rfl) ?_
    refine lv_astore_n (lv' := [(2, .ref (uW (Int32.toNatClampNeg a1) 0)), (0, .ref (uP 0)), (1, .int a1)]) hx hb dX8_drop_16 rfl hl (by decide) rfl (fun ls hl => ?_)
    refine lv_aload_n hx hb dX8_drop_17 rfl (lv_at hl 0 rfl) ?_
    obtain ⟨k5, hf⟩ := gd_some hf
    obtain ⟨r4, hr4, hf⟩ := bi_some hf
    refine kz_v (ci := 5) (q0 := 0) (n := 0) S hRf hRl hK hA hZ hP hD hS hl [47 + 2 * (Int32.toNatClampNeg a1), 48 + 2 * (Int32.toNatClampNeg a1)] [] [] (kW_missing l D (uW (Int32.toNatClampNeg a1)) cI cB cR cM cJ t (ω (Int32.toNatClampNeg a1)) r4 hr4) (pw_cW (Int32.toNatClampNeg a1) k5) (pw_nW (Int32.toNatClampNeg a1) k5) rfl gX8_drop_X6_missing rfl (by decide +kernel) rfl ⟨by decide, by decide⟩ rfl rfl rfl rfl (Nat.le_of_ble_eq_true rfl) dX8_drop_18 (fun H locs hP hD hS => ?_)
    rw [pw_kW (Int32.toNatClampNeg a1) k5, va_up_id] at hP hD
    refine W.eq (g2 := F0 m 21 ls [.int r4]) rfl ?_
    refine lv_if_eq (tgt := 30) hx hb dX8_drop_21 (by decide) (fun c6 => ?_) (fun c6 => ?_)
    · have hf := (if_pos c6).symm.trans hf
      refine lv_aload_n hx hb dX8_drop_30 rfl (lv_at hl 0 rfl) ?_
      obtain ⟨k7, hf⟩ := gd_some hf
      refine Wg_2 S hinX6 hK hP (47 + 2 * (Int32.toNatClampNeg a1)) (pw_rowAt (Int32.toNatClampNeg a1) k7) f117 dX8_drop_31 ?_
      refine lv_topi (fun x8 ex8 => ?_)
      have hf := nm_at ex8 hf
      refine lv_istore_n (lv' := [(3, .int x8), (2, .ref (uW (Int32.toNatClampNeg a1) 0)), (0, .ref (uP 0)), (1, .int a1)]) hx hb dX8_drop_34 rfl hl (by decide) rfl (fun ls hl => ?_)
      refine lv_aload_n hx hb dX8_drop_35 rfl (lv_at hl 1 rfl) ?_
      obtain ⟨k10, hf⟩ := gd_some hf
      obtain ⟨τ11, hr9, hf⟩ := bi_some hf
      refine kz_v (ci := 5) (q0 := 0) (n := 0) S hRf hRl hK hA hZ hP hD hS hl [47 + 2 * (Int32.toNatClampNeg a1), 48 + 2 * (Int32.toNatClampNeg a1)] [] [] (kW_takeAway l D (uW (Int32.toNatClampNeg a1)) cI cB cR cM cJ t (ω (Int32.toNatClampNeg a1)) τ11 hr9) (pw_cW (Int32.toNatClampNeg a1) k10) (pw_nW (Int32.toNatClampNeg a1) k10) rfl gX8_drop_X6_takeAway rfl (by decide +kernel) rfl ⟨by decide, by decide⟩ rfl rfl rfl rfl (Nat.le_of_ble_eq_true rfl) dX8_drop_36 (fun H locs hP hD hS => ?_)
      rw [pw_kW (Int32.toNatClampNeg a1) k10] at hP hD
      obtain ⟨ω12, eω12, hf⟩ := nm_some hf
      rw [← eω12] at hP hD
      refine W.eq (g2 := F0 m 39 ls []) rfl ?_
      refine lv_aload_n hx hb dX8_drop_39 rfl (lv_at hl 2 rfl) ?_
      refine lv_iload_n hx hb dX8_drop_40 rfl (lv_at hl 0 rfl) ?_
      obtain ⟨r13, σ14, hr13, hf⟩ := bd2_some hf
      refine kz_w (ci := 7) (q0 := 0) (n := 1) S hRf hRl hK hA hZ hP hD hS hl [.int x8] [] (kP_answered l D uP uL uG uR uT uC uA uK uW uI cI cB cR cM cJ t σP σL σG σR σT σC σA σK ω12 ι x8 r13 σ14 hr13) gX8_drop_X8_answered rfl (by decide +kernel) rfl ⟨by decide, by decide⟩ rfl rfl rfl rfl (Nat.le_of_ble_eq_true rfl) dX8_drop_41 (fun H locs hP hD hS => ?_)
      refine W.eq (g2 := F0 m 44 ls [.int r13]) rfl ?_
      exact hre _ _ _ _ _ _ _ hf hP hD hS dX8_drop_44
    · have hf := (if_neg c6).symm.trans hf
      refine lv_aload_n hx hb dX8_drop_24 rfl (lv_at hl 1 rfl) ?_
      refine lv_iconst (v := 1) hx hb dX8_drop_25 (by decide) ?_
      obtain ⟨r15, σ16, hr15, hf⟩ := bd2_some hf
      refine kz_w (ci := 7) (q0 := 0) (n := 1) S hRf hRl hK hA hZ hP hD hS hl [.int 1] [] (kP_found l D uP uL uG uR uT uC uA uK uW uI cI cB cR cM cJ t σP σL σG σR σT σC σA σK ω ι 1 r15 σ16 hr15) gX8_drop_X8_found rfl (by decide +kernel) rfl ⟨by decide, by decide⟩ rfl rfl rfl rfl (Nat.le_of_ble_eq_true rfl) dX8_drop_26 (fun H locs hP hD hS => ?_)
      refine W.eq (g2 := F0 m 29 ls [.int r15]) rfl ?_
      exact hre _ _ _ _ _ _ _ hf hP hD hS dX8_drop_29
  · have hf := (if_neg c2).symm.trans hf
    refine lv_ldc (v := (-1000001)) hx hb hown c80 dX8_drop_7 ?_
    exact hre _ _ _ _ _ _ _ hf hP hD hS dX8_drop_9
def FP_feed (σT : MS) (a1 : Int64) (a3 : Int32) : Option (Int32 × MS) :=
  Option.bind (FP_outside a3 1 8) fun (r1 : Int32) => if r1 = 0 then (if ((σT.1 1) + a3) ≤ 500 then (Option.bind (FT_append σT a1 a3) fun (τ5 : MS) => some ((τ5.1 1), τ5)) else (some ((-1000003), σT))) else (some ((-1000001), σT))
set_option maxHeartbeats 4000000 in
set_option maxRecDepth 100000 in
theorem kP_feed (l : Launch) (D : va_G) (uP uL uG uR uT uC uA uK : Nat → Nat) (uW uI : Nat → Nat → Nat) (cI cB cR cM cJ : ClassId) (t : Nat → Nat) (σP σL σG σR σT σC σA σK : MS) (ω ι : Nat → MS) (a1 : Int64) (a3 : Int32) (r : Int32) (σT' : MS) (hf : FP_feed σT a1 a3 = some (r, σT')) : KZ l D (ctys cI cB cR cM cJ) t yX8_feed wsX8_feed 1 24 [.ref (uP 0), .long a1, .int a3] (pw uP uL uG uR uT uC uA uK uW uI cI cB cR cM cJ σP σL σG σR σT σC σA σK ω ι) (some (.int r)) (pw uP uL uG uR uT uC uA uK uW uI cI cB cR cM cJ σP σL σG σR σT' σC σA σK ω ι) := by
  refine KZ.ofI (own := RX8) (cc := cX8_feed) (maxL := 4) (by decide) rfl rfl (Nat.le_of_ble_eq_true rfl) ?_
  intro p e s m args below meth c R Q A ls S hRf hRl hK hA hP hD hS hl hZ hret
  obtain ⟨hx, hb, hml, hown, hts⟩ := id S
  have f32 := hts (.fieldLink RX8 32 "PenniesAway" "tape" "LPenniesAway$Tape;") (by decide +kernel)
  have hinX8 : ∀ w ∈ wsX80, w ∈ wsX8_feed := fun w hw => List.mem_cons_of_mem _ (List.mem_append_left _ (List.mem_append_right _ hw))
  have f125 := hts (.fieldLink RX8 125 "PenniesAway$Tape" "length" "I") (by decide +kernel)
  have hinX7 : ∀ w ∈ wsX70, w ∈ wsX8_feed := fun w hw => List.mem_cons_of_mem _ (List.mem_append_right _ hw)
  have c128 := hts (.constant RX8 128 (-1000003)) (by decide +kernel)
  have c80 := hts (.constant RX8 80 (-1000001)) (by decide +kernel)
  have hl : lv_has ls 4 [(0, .ref (uP 0)), (1, .long a1), (3, .int a3)] := hl
  have hre : ∀ (x : Int32) (τT : MS) (pc : Nat) (ls : Array Slot) (H : Heap) (locs : List Loc), (some (x, τT) : Option (Int32 × MS)) = some (r, σT') → va_P D vwCl (pw uP uL uG uR uT uC uA uK uW uI cI cB cR cM cJ σP σL σG σR τT σC σA σK ω ι) H → va_D A (pw uP uL uG uR uT uC uA uK uW uI cI cB cR cM cJ σP σL σG σR τT σC σA σK ω ι) → va_S A s.heap H locs → decode cX8_feed pc = .ok (.ireturn, 1) → W p l e R s m args below meth c H locs 0 0 Q (F0 m pc ls [.int x]) := by intro x τT pc ls H locs he; cases he; exact hret pc ls H locs
  unfold FP_feed at hf
  refine lv_iload_n hx hb dX8_feed_0 rfl (lv_at hl 2 rfl) ?_
  refine lv_iconst (v := 1) hx hb dX8_feed_1 (by decide) ?_
  refine lv_bipush (v := 8) hx hb dX8_feed_2 (by decide) ?_
  obtain ⟨r1, hr1, hf⟩ := bi_some hf
  refine kz_s (n := 3) S hRf hRl hK hA hZ hP hD hS hl [] [.int a3, .int 1, .int 8] [] (kP_outside l D cI cB cR cM cJ t [] a3 1 8 r1 hr1) rfl rfl rfl gX8_feed_X8_outside rfl (by decide +kernel) rfl ⟨by decide, by decide⟩ rfl (Nat.le_of_ble_eq_true rfl) dX8_feed_4 (fun H locs hP hD hS => ?_)
  replace hP : va_P D vwCl (pw uP uL uG uR uT uC uA uK uW uI cI cB cR cM cJ σP σL σG σR σT σC σA σK ω ι) H := hP
  replace hD : va_D A (pw uP uL uG uR uT uC uA uK uW uI cI cB cR cM cJ σP σL σG σR σT σC σA σK ω ι) := hD
  refine W.eq (g2 := F0 m 7 ls [.int r1]) rfl ?_
  refine lv_if_eq (tgt := 13) hx hb dX8_feed_7 (by decide) (fun c2 => ?_) (fun c2 => ?_)
  · have hf := (if_pos c2).symm.trans hf
    refine lv_aload_n hx hb dX8_feed_13 rfl (lv_at hl 0 rfl) ?_
    refine Pg_3 S hinX8 hK hP f32 dX8_feed_14 ?_
    refine Tg_1 S hinX7 hK hP 14 rfl f125 dX8_feed_17 ?_
    refine lv_iload_n hx hb dX8_feed_20 rfl (lv_at hl 2 rfl) ?_
    refine lv_iadd hx hb dX8_feed_21 ?_
    refine lv_sipush (v := 500) hx hb dX8_feed_22 (by decide) ?_
    refine lv_icmp_le (tgt := 31) hx hb dX8_feed_25 (by decide) (fun c3 => ?_) (fun c3 => ?_)
    · have hf := (if_pos c3).symm.trans hf
      refine lv_aload_n hx hb dX8_feed_31 rfl (lv_at hl 0 rfl) ?_
      refine Pg_3 S hinX8 hK hP f32 dX8_feed_32 ?_
      refine lv_lload_n hx hb dX8_feed_35 rfl (lv_at hl 1 rfl) ?_
      refine lv_iload_n hx hb dX8_feed_36 rfl (lv_at hl 2 rfl) ?_
      obtain ⟨τ5, hr4, hf⟩ := bi_some hf
      refine kz_v (ci := 6) (q0 := 0) (n := 2) S hRf hRl hK hA hZ hP hD hS hl [14, 15] [.long a1, .int a3] [] (kT_append l D uT cI cB cR cM cJ t σT a1 a3 τ5 hr4) pw_cT rfl rfl gX8_feed_X7_append rfl (by decide +kernel) rfl ⟨by decide, by decide⟩ rfl rfl rfl rfl (Nat.le_of_ble_eq_true rfl) dX8_feed_37 (fun H locs hP hD hS => ?_)
      rw [pw_kT] at hP hD
      refine W.eq (g2 := F0 m 40 ls []) rfl ?_
      refine lv_aload_n hx hb dX8_feed_40 rfl (lv_at hl 0 rfl) ?_
      refine Pg_3 S hinX8 hK hP f32 dX8_feed_41 ?_
      refine Tg_1 S hinX7 hK hP 14 rfl f125 dX8_feed_44 ?_
      exact hre _ _ _ _ _ _ hf hP hD hS dX8_feed_47
    · have hf := (if_neg c3).symm.trans hf
      refine lv_ldc (v := (-1000003)) hx hb hown c128 dX8_feed_28 ?_
      exact hre _ _ _ _ _ _ hf hP hD hS dX8_feed_30
  · have hf := (if_neg c2).symm.trans hf
    refine lv_ldc (v := (-1000001)) hx hb hown c80 dX8_feed_10 ?_
    exact hre _ _ _ _ _ _ hf hP hD hS dX8_feed_12
def FP_fault (σP : MS) : Option Int32 :=
  some ((σP.1 10))
set_option maxHeartbeats 4000000 in
set_option maxRecDepth 100000 in
theorem kP_fault (l : Launch) (D : va_G) (uP uL uG uR uT uC uA uK : Nat → Nat) (uW uI : Nat → Nat → Nat) (cI cB cR cM cJ : ClassId) (t : Nat → Nat) (σP σL σG σR σT σC σA σK : MS) (ω ι : Nat → MS) (r : Int32) (hf : FP_fault σP = some (r)) : KZ l D (ctys cI cB cR cM cJ) t yX8_fault wsX8_fault 0 0 [.ref (uP 0)] (pw uP uL uG uR uT uC uA uK uW uI cI cB cR cM cJ σP σL σG σR σT σC σA σK ω ι) (some (.int r)) (pw uP uL uG uR uT uC uA uK uW uI cI cB cR cM cJ σP σL σG σR σT σC σA σK ω ι) := by
  refine KZ.ofI (own := RX8) (cc := cX8_fault) (maxL := 1) (by decide) rfl rfl (Nat.le_of_ble_eq_true rfl) ?_
  intro p e s m args below meth c R Q A ls S hRf hRl hK hA hP hD hS hl hZ hret
  obtain ⟨hx, hb, hml, hown, hts⟩ := id S
  have f68 := hts (.fieldLink RX8 68 "PenniesAway" "latestFault" "I") (by decide +kernel)
  have hinX8 : ∀ w ∈ wsX80, w ∈ wsX8_fault := fun w hw => List.mem_cons_of_mem _ (List.mem_append_right _ hw)
  have hl : lv_has ls 1 [(0, .ref (uP 0))] := hl
  have hre : ∀ (x : Int32) (pc : Nat) (ls : Array Slot) (H : Heap) (locs : List Loc), (some (x) : Option Int32) = some (r) → va_P D vwCl (pw uP uL uG uR uT uC uA uK uW uI cI cB cR cM cJ σP σL σG σR σT σC σA σK ω ι) H → va_D A (pw uP uL uG uR uT uC uA uK uW uI cI cB cR cM cJ σP σL σG σR σT σC σA σK ω ι) → va_S A s.heap H locs → decode cX8_fault pc = .ok (.ireturn, 1) → W p l e R s m args below meth c H locs 0 0 Q (F0 m pc ls [.int x]) := by intro x pc ls H locs he; cases he; exact hret pc ls H locs
  unfold FP_fault at hf
  refine lv_aload_n hx hb dX8_fault_0 rfl (lv_at hl 0 rfl) ?_
  refine Pg_10 S hinX8 hK hP f68 dX8_fault_1 ?_
  exact hre _ _ _ _ _ hf hP hD hS dX8_fault_4
def FP_noCoin (σL : MS) (a1 : Int32) : Option Int32 :=
  Option.bind (FP_outside a1 0 ((σL.1 7) - 1)) fun (r1 : Int32) => gd (r1 = 0 ∨ r1 = 1) (some (r1))
set_option maxHeartbeats 4000000 in
set_option maxRecDepth 100000 in
theorem kP_noCoin (l : Launch) (D : va_G) (uP uL uG uR uT uC uA uK : Nat → Nat) (uW uI : Nat → Nat → Nat) (cI cB cR cM cJ : ClassId) (t : Nat → Nat) (σP σL σG σR σT σC σA σK : MS) (ω ι : Nat → MS) (a1 : Int32) (r : Int32) (hf : FP_noCoin σL a1 = some (r)) : KZ l D (ctys cI cB cR cM cJ) t yX8_noCoin wsX8_noCoin 1 22 [.ref (uP 0), .int a1] (pw uP uL uG uR uT uC uA uK uW uI cI cB cR cM cJ σP σL σG σR σT σC σA σK ω ι) (some (.int r)) (pw uP uL uG uR uT uC uA uK uW uI cI cB cR cM cJ σP σL σG σR σT σC σA σK ω ι) := by
  refine KZ.ofZ (own := RX8) (cc := cX8_noCoin) (maxL := 2) (by decide) rfl rfl (Nat.le_of_ble_eq_true rfl) ?_
  intro p e s m args below meth c R Q A ls S hRf hRl hK hA hP hD hS hl hZ hret
  obtain ⟨hx, hb, hml, hown, hts⟩ := id S
  have f57 := hts (.fieldLink RX8 57 "PenniesAway" "kingdom" "LPenniesAway$Realm;") (by decide +kernel)
  have hinX8 : ∀ w ∈ wsX80, w ∈ wsX8_noCoin := fun w hw => List.mem_cons_of_mem _ (List.mem_append_left _ (List.mem_append_right _ hw))
  have f150 := hts (.fieldLink RX8 150 "PenniesAway$Realm" "coins" "I") (by decide +kernel)
  have hinX5 : ∀ w ∈ wsX50, w ∈ wsX8_noCoin := fun w hw => List.mem_cons_of_mem _ (List.mem_append_right _ hw)
  have hl : lv_has ls 2 [(0, .ref (uP 0)), (1, .int a1)] := hl
  have hre : ∀ (x : Int32) (pc : Nat) (ls : Array Slot) (H : Heap) (locs : List Loc), (some (x) : Option Int32) = some (r) → va_P D vwCl (pw uP uL uG uR uT uC uA uK uW uI cI cB cR cM cJ σP σL σG σR σT σC σA σK ω ι) H → va_D A (pw uP uL uG uR uT uC uA uK uW uI cI cB cR cM cJ σP σL σG σR σT σC σA σK ω ι) → va_S A s.heap H locs → decode cX8_noCoin pc = .ok (.ireturn, 1) → narrow .boolean (.int x) = .int x → W p l e R s m args below meth c H locs 0 0 Q (F0 m pc ls [.int x]) := by intro x pc ls H locs he; cases he; exact hret pc ls H locs
  unfold FP_noCoin at hf
  refine lv_iload_n hx hb dX8_noCoin_0 rfl (lv_at hl 1 rfl) ?_
  refine lv_iconst (v := 0) hx hb dX8_noCoin_1 (by decide) ?_
  refine lv_aload_n hx hb dX8_noCoin_2 rfl (lv_at hl 0 rfl) ?_
  refine Pg_7 S hinX8 hK hP f57 dX8_noCoin_3 ?_
  refine Lg_7 S hinX5 hK hP 3 rfl f150 dX8_noCoin_6 ?_
  refine lv_iconst (v := 1) hx hb dX8_noCoin_9 (by decide) ?_
  refine lv_isub hx hb dX8_noCoin_10 ?_
  obtain ⟨r1, hr1, hf⟩ := bi_some hf
  refine kz_s (n := 3) S hRf hRl hK hA hZ hP hD hS hl [] [.int a1, .int 0, .int ((σL.1 7) - 1)] [] (kP_outside l D cI cB cR cM cJ t [] a1 0 ((σL.1 7) - 1) r1 hr1) rfl rfl rfl gX8_noCoin_X8_outside rfl (by decide +kernel) rfl ⟨by decide, by decide⟩ rfl (Nat.le_of_ble_eq_true rfl) dX8_noCoin_11 (fun H locs hP hD hS => ?_)
  replace hP : va_P D vwCl (pw uP uL uG uR uT uC uA uK uW uI cI cB cR cM cJ σP σL σG σR σT σC σA σK ω ι) H := hP
  replace hD : va_D A (pw uP uL uG uR uT uC uA uK uW uI cI cB cR cM cJ σP σL σG σR σT σC σA σK ω ι) := hD
  refine W.eq (g2 := F0 m 14 ls [.int r1]) rfl ?_
  obtain ⟨g2, hf⟩ := gd_some hf
  exact hre _ _ _ _ _ hf hP hD hS dX8_noCoin_14 (by rcases g2 with g2 | g2 <;> (rw [g2]; rfl))
def FP_pass (σL : MS) (σK : MS) (a1 : Int32) (a2 : Int32) : Option (Int32 × MS × MS) :=
  Option.bind (FP_noCoin σL a1) fun (r1 : Int32) => if r1 = 0 then (Option.bind (FP_outside a2 0 ((σL.1 6) - 1)) fun (r3 : Int32) => if r3 = 0 then (Option.bind (FL_about σL a1 0) fun (r5 : Int32) => if a2 = r5 then (some ((-1000001), σL, σK)) else (Option.bind (FL_withHolder σL a1) fun (r7 : Int32) => if r7 = 0 then (some ((-1000002), σL, σK)) else (gd (¬ ((a2 : Int32) < 0 ∨ 6 ≤ Int32.toNatClampNeg a2)) (gd (¬ ((r5 : Int32) < 0 ∨ 6 ≤ Int32.toNatClampNeg r5)) (if (σL.2 1 (Int32.toNatClampNeg a2)) = (σL.2 1 (Int32.toNatClampNeg r5)) then (Option.bind (FK_keep σK (vOf σL 3)) fun (τ13 : MS) => Option.bind (FL_put σL a1 0 a2) fun (τ15 : MS) => some (r5, τ15, τ13)) else (some ((-1000002), σL, σK))))))) else (some ((-1000001), σL, σK))) else (some ((-1000001), σL, σK))
set_option maxHeartbeats 4000000 in
set_option maxRecDepth 100000 in
theorem kP_pass (l : Launch) (D : va_G) (uP uL uG uR uT uC uA uK : Nat → Nat) (uW uI : Nat → Nat → Nat) (cI cB cR cM cJ : ClassId) (t : Nat → Nat) (σP σL σG σR σT σC σA σK : MS) (ω ι : Nat → MS) (a1 : Int32) (a2 : Int32) (r : Int32) (σL' : MS) (σK' : MS) (hf : FP_pass σL σK a1 a2 = some (r, σL', σK')) : KZ l D (ctys cI cB cR cM cJ) t yX8_pass wsX8_pass 2 81 [.ref (uP 0), .int a1, .int a2] (pw uP uL uG uR uT uC uA uK uW uI cI cB cR cM cJ σP σL σG σR σT σC σA σK ω ι) (some (.int r)) (pw uP uL uG uR uT uC uA uK uW uI cI cB cR cM cJ σP σL' σG σR σT σC σA σK' ω ι) := by
  refine KZ.ofI (own := RX8) (cc := cX8_pass) (maxL := 4) (by decide) rfl rfl (Nat.le_of_ble_eq_true rfl) ?_
  intro p e s m args below meth c R Q A ls S hRf hRl hK hA hP hD hS hl hZ hret
  obtain ⟨hx, hb, hml, hown, hts⟩ := id S
  have c80 := hts (.constant RX8 80 (-1000001)) (by decide +kernel)
  have f57 := hts (.fieldLink RX8 57 "PenniesAway" "kingdom" "LPenniesAway$Realm;") (by decide +kernel)
  have hinX8 : ∀ w ∈ wsX80, w ∈ wsX8_pass := fun w hw => List.mem_cons_of_mem _ (List.mem_append_left _ (List.mem_append_left _ (List.mem_append_right _ hw)))
  have f156 := hts (.fieldLink RX8 156 "PenniesAway$Realm" "holders" "I") (by decide +kernel)
  have hinX5 : ∀ w ∈ wsX50, w ∈ wsX8_pass := fun w hw => List.mem_cons_of_mem _ (List.mem_append_left _ (List.mem_append_right _ hw))
  have c168 := hts (.constant RX8 168 (-1000002)) (by decide +kernel)
  have f165 := hts (.fieldLink RX8 165 "PenniesAway$Realm" "towns" "[I") (by decide +kernel)
  have f38 := hts (.fieldLink RX8 38 "PenniesAway" "acts" "LPenniesAway$Acts;") (by decide +kernel)
  have f169 := hts (.fieldLink RX8 169 "PenniesAway$Realm" "changing" "[I") (by decide +kernel)
  have hl : lv_has ls 4 [(0, .ref (uP 0)), (1, .int a1), (2, .int a2)] := hl
  have hre : ∀ (x : Int32) (τL : MS) (τK : MS) (pc : Nat) (ls : Array Slot) (H : Heap) (locs : List Loc), (some (x, τL, τK) : Option (Int32 × MS × MS)) = some (r, σL', σK') → va_P D vwCl (pw uP uL uG uR uT uC uA uK uW uI cI cB cR cM cJ σP τL σG σR σT σC σA τK ω ι) H → va_D A (pw uP uL uG uR uT uC uA uK uW uI cI cB cR cM cJ σP τL σG σR σT σC σA τK ω ι) → va_S A s.heap H locs → decode cX8_pass pc = .ok (.ireturn, 1) → W p l e R s m args below meth c H locs 0 0 Q (F0 m pc ls [.int x]) := by intro x τL τK pc ls H locs he; cases he; exact hret pc ls H locs
  unfold FP_pass at hf
  refine lv_aload_n hx hb dX8_pass_0 rfl (lv_at hl 0 rfl) ?_
  refine lv_iload_n hx hb dX8_pass_1 rfl (lv_at hl 1 rfl) ?_
  obtain ⟨r1, hr1, hf⟩ := bi_some hf
  refine kz_w (ci := 7) (q0 := 0) (n := 1) S hRf hRl hK hA hZ hP hD hS hl [.int a1] [] (kP_noCoin l D uP uL uG uR uT uC uA uK uW uI cI cB cR cM cJ t σP σL σG σR σT σC σA σK ω ι a1 r1 hr1) gX8_pass_X8_noCoin rfl (by decide +kernel) rfl ⟨by decide, by decide⟩ rfl rfl rfl rfl (Nat.le_of_ble_eq_true rfl) dX8_pass_2 (fun H locs hP hD hS => ?_)
  refine W.eq (g2 := F0 m 5 ls [.int r1]) rfl ?_
  refine lv_if_ne (tgt := 25) hx hb dX8_pass_5 (by decide) (fun c2 => ?_) (fun c2 => ?_)
  · have hf := (if_neg c2).symm.trans hf
    refine lv_ldc (v := (-1000001)) hx hb hown c80 dX8_pass_25 ?_
    exact hre _ _ _ _ _ _ _ hf hP hD hS dX8_pass_27
  · have hf := (if_pos c2).symm.trans hf
    refine lv_iload_n hx hb dX8_pass_8 rfl (lv_at hl 2 rfl) ?_
    refine lv_iconst (v := 0) hx hb dX8_pass_9 (by decide) ?_
    refine lv_aload_n hx hb dX8_pass_10 rfl (lv_at hl 0 rfl) ?_
    refine Pg_7 S hinX8 hK hP f57 dX8_pass_11 ?_
    refine Lg_6 S hinX5 hK hP 3 rfl f156 dX8_pass_14 ?_
    refine lv_iconst (v := 1) hx hb dX8_pass_17 (by decide) ?_
    refine lv_isub hx hb dX8_pass_18 ?_
    obtain ⟨r3, hr3, hf⟩ := bi_some hf
    refine kz_s (n := 3) S hRf hRl hK hA hZ hP hD hS hl [] [.int a2, .int 0, .int ((σL.1 6) - 1)] [] (kP_outside l D cI cB cR cM cJ t [] a2 0 ((σL.1 6) - 1) r3 hr3) rfl rfl rfl gX8_pass_X8_outside rfl (by decide +kernel) rfl ⟨by decide, by decide⟩ rfl (Nat.le_of_ble_eq_true rfl) dX8_pass_19 (fun H locs hP hD hS => ?_)
    replace hP : va_P D vwCl (pw uP uL uG uR uT uC uA uK uW uI cI cB cR cM cJ σP σL σG σR σT σC σA σK ω ι) H := hP
    replace hD : va_D A (pw uP uL uG uR uT uC uA uK uW uI cI cB cR cM cJ σP σL σG σR σT σC σA σK ω ι) := hD
    refine W.eq (g2 := F0 m 22 ls [.int r3]) rfl ?_
    refine lv_if_eq (tgt := 28) hx hb dX8_pass_22 (by decide) (fun c4 => ?_) (fun c4 => ?_)
    · have hf := (if_pos c4).symm.trans hf
      refine lv_aload_n hx hb dX8_pass_28 rfl (lv_at hl 0 rfl) ?_
      refine Pg_7 S hinX8 hK hP f57 dX8_pass_29 ?_
      refine lv_iload_n hx hb dX8_pass_32 rfl (lv_at hl 1 rfl) ?_
      refine lv_iconst (v := 0) hx hb dX8_pass_33 (by decide) ?_
      obtain ⟨r5, hr5, hf⟩ := bi_some hf
      refine kz_v (ci := 4) (q0 := 0) (n := 2) S hRf hRl hK hA hZ hP hD hS hl [3, 4, 5, 6, 7] [.int a1, .int 0] [] (kL_about l D uL cI cB cR cM cJ t σL a1 0 r5 hr5) pw_cL rfl rfl gX8_pass_X5_about rfl (by decide +kernel) rfl ⟨by decide, by decide⟩ rfl rfl rfl rfl (Nat.le_of_ble_eq_true rfl) dX8_pass_34 (fun H locs hP hD hS => ?_)
      rw [pw_kL] at hP hD
      refine W.eq (g2 := F0 m 37 ls [.int r5]) rfl ?_
      refine lv_istore_n (lv' := [(3, .int r5), (0, .ref (uP 0)), (1, .int a1), (2, .int a2)]) hx hb dX8_pass_37 rfl hl (by decide) rfl (fun ls hl => ?_)
      refine lv_iload_n hx hb dX8_pass_38 rfl (lv_at hl 3 rfl) ?_
      refine lv_iload_n hx hb dX8_pass_39 rfl (lv_at hl 0 rfl) ?_
      refine lv_icmp_ne (tgt := 46) hx hb dX8_pass_40 (by decide) (fun c6 => ?_) (fun c6 => ?_)
      · have hf := (if_neg c6).symm.trans hf
        refine lv_aload_n hx hb dX8_pass_46 rfl (lv_at hl 1 rfl) ?_
        refine Pg_7 S hinX8 hK hP f57 dX8_pass_47 ?_
        refine lv_iload_n hx hb dX8_pass_50 rfl (lv_at hl 2 rfl) ?_
        obtain ⟨r7, hr7, hf⟩ := bi_some hf
        refine kz_v (ci := 4) (q0 := 0) (n := 1) S hRf hRl hK hA hZ hP hD hS hl [3, 4, 5, 6, 7] [.int a1] [] (kL_withHolder l D uL cI cB cR cM cJ t σL a1 r7 hr7) pw_cL rfl rfl gX8_pass_X5_withHolder rfl (by decide +kernel) rfl ⟨by decide, by decide⟩ rfl rfl rfl rfl (Nat.le_of_ble_eq_true rfl) dX8_pass_51 (fun H locs hP hD hS => ?_)
        rw [pw_kL] at hP hD
        refine W.eq (g2 := F0 m 54 ls [.int r7]) rfl ?_
        refine lv_if_eq (tgt := 78) hx hb dX8_pass_54 (by decide) (fun c8 => ?_) (fun c8 => ?_)
        · have hf := (if_pos c8).symm.trans hf
          refine lv_ldc (v := (-1000002)) hx hb hown c168 dX8_pass_78 ?_
          exact hre _ _ _ _ _ _ _ hf hP hD hS dX8_pass_80
        · have hf := (if_neg c8).symm.trans hf
          refine lv_aload_n hx hb dX8_pass_57 rfl (lv_at hl 1 rfl) ?_
          refine Pg_7 S hinX8 hK hP f57 dX8_pass_58 ?_
          refine Lg_1 S hinX5 hK hP 3 rfl f165 dX8_pass_61 ?_
          refine lv_iload_n hx hb dX8_pass_64 rfl (lv_at hl 3 rfl) ?_
          obtain ⟨g9, hf⟩ := gd_some hf
          refine va_iald (f := σL.2 1) (n := 6) (cA := cI) hx hb hK hP 5 0 rfl rfl g9 dX8_pass_65 ?_
          refine lv_aload_n hx hb dX8_pass_66 rfl (lv_at hl 1 rfl) ?_
          refine Pg_7 S hinX8 hK hP f57 dX8_pass_67 ?_
          refine Lg_1 S hinX5 hK hP 3 rfl f165 dX8_pass_70 ?_
          refine lv_iload_n hx hb dX8_pass_73 rfl (lv_at hl 0 rfl) ?_
          obtain ⟨g10, hf⟩ := gd_some hf
          refine va_iald (f := σL.2 1) (n := 6) (cA := cI) hx hb hK hP 5 0 rfl rfl g10 dX8_pass_74 ?_
          refine lv_icmp_eq (tgt := 81) hx hb dX8_pass_75 (by decide) (fun c11 => ?_) (fun c11 => ?_)
          · have hf := (if_pos c11).symm.trans hf
            refine lv_aload_n hx hb dX8_pass_81 rfl (lv_at hl 1 rfl) ?_
            refine Pg_4 S hinX8 hK hP f38 dX8_pass_82 ?_
            refine lv_aload_n hx hb dX8_pass_85 rfl (lv_at hl 1 rfl) ?_
            refine Pg_7 S hinX8 hK hP f57 dX8_pass_86 ?_
            refine Lg_3 S hinX5 hK hP 3 rfl f169 dX8_pass_89 ?_
            obtain ⟨τ13, hr12, hf⟩ := bi_some hf
            refine kz_v (ci := 0) (q0 := 0) (n := 1) S hRf hRl hK hA hZ hP hD hS hl [21, 22, 23, 24, 25, 26, 27, 28, 29, 30, 31, 32, 33, 34, 35, 36, 37, 38, 39, 40, 41, 42, 43, 44, 45, 46, 7] [.ref (uL 4)] [] (kK_keep l D uK (fun _ => uL 4) cI cB cR cM cJ t σK (vOf σL 3) τ13 hr12) pw_cKV rfl rfl gX8_pass_X0_keep rfl (by decide +kernel) rfl ⟨by decide, by decide⟩ rfl rfl rfl rfl (Nat.le_of_ble_eq_true rfl) dX8_pass_92 (fun H locs hP hD hS => ?_)
            rw [pw_kKV] at hP hD
            rw [setR_vOf] at hP hD
            refine W.eq (g2 := F0 m 95 ls []) rfl ?_
            refine lv_aload_n hx hb dX8_pass_95 rfl (lv_at hl 1 rfl) ?_
            refine Pg_7 S hinX8 hK hP f57 dX8_pass_96 ?_
            refine lv_iload_n hx hb dX8_pass_99 rfl (lv_at hl 2 rfl) ?_
            refine lv_iconst (v := 0) hx hb dX8_pass_100 (by decide) ?_
            refine lv_iload_n hx hb dX8_pass_101 rfl (lv_at hl 3 rfl) ?_
            obtain ⟨τ15, hr14, hf⟩ := bi_some hf
            refine kz_v (ci := 4) (q0 := 0) (n := 3) S hRf hRl hK hA hZ hP hD hS hl [3, 4, 5, 6, 7] [.int a1, .int 0, .int a2] [] (kL_put l D uL cI cB cR cM cJ t σL a1 0 a2 τ15 hr14) pw_cL rfl rfl gX8_pass_X5_put rfl (by decide +kernel) rfl ⟨by decide, by decide⟩ rfl rfl rfl rfl (Nat.le_of_ble_eq_true rfl) dX8_pass_102 (fun H locs hP hD hS => ?_)
            rw [pw_kL] at hP hD
            refine W.eq (g2 := F0 m 105 ls []) rfl ?_
            refine lv_iload_n hx hb dX8_pass_105 rfl (lv_at hl 0 rfl) ?_
            exact hre _ _ _ _ _ _ _ hf hP hD hS dX8_pass_106
          · have hf := (if_neg c11).symm.trans hf
            refine lv_ldc (v := (-1000002)) hx hb hown c168 dX8_pass_78 ?_
            exact hre _ _ _ _ _ _ _ hf hP hD hS dX8_pass_80
      · have hf := (if_pos c6).symm.trans hf
        refine lv_ldc (v := (-1000001)) hx hb hown c80 dX8_pass_43 ?_
        exact hre _ _ _ _ _ _ _ hf hP hD hS dX8_pass_45
    · have hf := (if_neg c4).symm.trans hf
      refine lv_ldc (v := (-1000001)) hx hb hown c80 dX8_pass_25 ?_
      exact hre _ _ _ _ _ _ _ hf hP hD hS dX8_pass_27
def FP_sendKept (σL : MS) (σK : MS) (a1 : Int32) : Option (Int32 × MS × MS) :=
  Option.bind (FK_keep σK (vOf σL 3)) fun (τ2 : MS) => bd2 (FL_startHome σL a1) fun (r3 : Int32) (τ4 : MS) => some (r3, τ4, τ2)
set_option maxHeartbeats 4000000 in
set_option maxRecDepth 100000 in
theorem kP_sendKept (l : Launch) (D : va_G) (uP uL uG uR uT uC uA uK : Nat → Nat) (uW uI : Nat → Nat → Nat) (cI cB cR cM cJ : ClassId) (t : Nat → Nat) (σP σL σG σR σT σC σA σK : MS) (ω ι : Nat → MS) (a1 : Int32) (r : Int32) (σL' : MS) (σK' : MS) (hf : FP_sendKept σL σK a1 = some (r, σL', σK')) : KZ l D (ctys cI cB cR cM cJ) t yX8_sendKept wsX8_sendKept 3 81 [.ref (uP 0), .int a1] (pw uP uL uG uR uT uC uA uK uW uI cI cB cR cM cJ σP σL σG σR σT σC σA σK ω ι) (some (.int r)) (pw uP uL uG uR uT uC uA uK uW uI cI cB cR cM cJ σP σL' σG σR σT σC σA σK' ω ι) := by
  refine KZ.ofI (own := RX8) (cc := cX8_sendKept) (maxL := 2) (by decide) rfl rfl (Nat.le_of_ble_eq_true rfl) ?_
  intro p e s m args below meth c R Q A ls S hRf hRl hK hA hP hD hS hl hZ hret
  obtain ⟨hx, hb, hml, hown, hts⟩ := id S
  have f38 := hts (.fieldLink RX8 38 "PenniesAway" "acts" "LPenniesAway$Acts;") (by decide +kernel)
  have hinX8 : ∀ w ∈ wsX80, w ∈ wsX8_sendKept := fun w hw => List.mem_cons_of_mem _ (List.mem_append_left _ (List.mem_append_left _ (List.mem_append_right _ hw)))
  have f57 := hts (.fieldLink RX8 57 "PenniesAway" "kingdom" "LPenniesAway$Realm;") (by decide +kernel)
  have f169 := hts (.fieldLink RX8 169 "PenniesAway$Realm" "changing" "[I") (by decide +kernel)
  have hinX5 : ∀ w ∈ wsX50, w ∈ wsX8_sendKept := fun w hw => List.mem_cons_of_mem _ (List.mem_append_left _ (List.mem_append_right _ hw))
  have hl : lv_has ls 2 [(0, .ref (uP 0)), (1, .int a1)] := hl
  have hre : ∀ (x : Int32) (τL : MS) (τK : MS) (pc : Nat) (ls : Array Slot) (H : Heap) (locs : List Loc), (some (x, τL, τK) : Option (Int32 × MS × MS)) = some (r, σL', σK') → va_P D vwCl (pw uP uL uG uR uT uC uA uK uW uI cI cB cR cM cJ σP τL σG σR σT σC σA τK ω ι) H → va_D A (pw uP uL uG uR uT uC uA uK uW uI cI cB cR cM cJ σP τL σG σR σT σC σA τK ω ι) → va_S A s.heap H locs → decode cX8_sendKept pc = .ok (.ireturn, 1) → W p l e R s m args below meth c H locs 0 0 Q (F0 m pc ls [.int x]) := by intro x τL τK pc ls H locs he; cases he; exact hret pc ls H locs
  unfold FP_sendKept at hf
  refine lv_aload_n hx hb dX8_sendKept_0 rfl (lv_at hl 0 rfl) ?_
  refine Pg_4 S hinX8 hK hP f38 dX8_sendKept_1 ?_
  refine lv_aload_n hx hb dX8_sendKept_4 rfl (lv_at hl 0 rfl) ?_
  refine Pg_7 S hinX8 hK hP f57 dX8_sendKept_5 ?_
  refine Lg_3 S hinX5 hK hP 3 rfl f169 dX8_sendKept_8 ?_
  obtain ⟨τ2, hr1, hf⟩ := bi_some hf
  refine kz_v (ci := 0) (q0 := 0) (n := 1) S hRf hRl hK hA hZ hP hD hS hl [21, 22, 23, 24, 25, 26, 27, 28, 29, 30, 31, 32, 33, 34, 35, 36, 37, 38, 39, 40, 41, 42, 43, 44, 45, 46, 7] [.ref (uL 4)] [] (kK_keep l D uK (fun _ => uL 4) cI cB cR cM cJ t σK (vOf σL 3) τ2 hr1) pw_cKV rfl rfl gX8_sendKept_X0_keep rfl (by decide +kernel) rfl ⟨by decide, by decide⟩ rfl rfl rfl rfl (Nat.le_of_ble_eq_true rfl) dX8_sendKept_11 (fun H locs hP hD hS => ?_)
  rw [pw_kKV] at hP hD
  rw [setR_vOf] at hP hD
  refine W.eq (g2 := F0 m 14 ls []) rfl ?_
  refine lv_aload_n hx hb dX8_sendKept_14 rfl (lv_at hl 0 rfl) ?_
  refine Pg_7 S hinX8 hK hP f57 dX8_sendKept_15 ?_
  refine lv_iload_n hx hb dX8_sendKept_18 rfl (lv_at hl 1 rfl) ?_
  obtain ⟨r3, τ4, hr3, hf⟩ := bd2_some hf
  refine kz_v (ci := 4) (q0 := 0) (n := 1) S hRf hRl hK hA hZ hP hD hS hl [3, 4, 5, 6, 7] [.int a1] [] (kL_startHome l D uL cI cB cR cM cJ t σL a1 r3 τ4 hr3) pw_cL rfl rfl gX8_sendKept_X5_startHome rfl (by decide +kernel) rfl ⟨by decide, by decide⟩ rfl rfl rfl rfl (Nat.le_of_ble_eq_true rfl) dX8_sendKept_19 (fun H locs hP hD hS => ?_)
  rw [pw_kL] at hP hD
  refine W.eq (g2 := F0 m 22 ls [.int r3]) rfl ?_
  exact hre _ _ _ _ _ _ _ hf hP hD hS dX8_sendKept_22
def FP_send (σL : MS) (σK : MS) (a1 : Int32) : Option (Int32 × MS × MS) :=
  Option.bind (FP_noCoin σL a1) fun (r1 : Int32) => if r1 = 0 then (Option.bind (FL_canGoHome σL a1) fun (r3 : Int32) => if r3 = 0 then (some ((-1000002), σL, σK)) else (bd3 (FP_sendKept σL σK a1) fun (r5 : Int32) (σ6 : MS) (σ7 : MS) => some (r5, σ6, σ7))) else (some ((-1000001), σL, σK))
set_option maxHeartbeats 4000000 in
set_option maxRecDepth 100000 in
theorem kP_send (l : Launch) (D : va_G) (uP uL uG uR uT uC uA uK : Nat → Nat) (uW uI : Nat → Nat → Nat) (cI cB cR cM cJ : ClassId) (t : Nat → Nat) (σP σL σG σR σT σC σA σK : MS) (ω ι : Nat → MS) (a1 : Int32) (r : Int32) (σL' : MS) (σK' : MS) (hf : FP_send σL σK a1 = some (r, σL', σK')) : KZ l D (ctys cI cB cR cM cJ) t yX8_send wsX8_send 4 102 [.ref (uP 0), .int a1] (pw uP uL uG uR uT uC uA uK uW uI cI cB cR cM cJ σP σL σG σR σT σC σA σK ω ι) (some (.int r)) (pw uP uL uG uR uT uC uA uK uW uI cI cB cR cM cJ σP σL' σG σR σT σC σA σK' ω ι) := by
  refine KZ.ofI (own := RX8) (cc := cX8_send) (maxL := 2) (by decide) rfl rfl (Nat.le_of_ble_eq_true rfl) ?_
  intro p e s m args below meth c R Q A ls S hRf hRl hK hA hP hD hS hl hZ hret
  obtain ⟨hx, hb, hml, hown, hts⟩ := id S
  have f57 := hts (.fieldLink RX8 57 "PenniesAway" "kingdom" "LPenniesAway$Realm;") (by decide +kernel)
  have hinX8 : ∀ w ∈ wsX80, w ∈ wsX8_send := fun w hw => List.mem_cons_of_mem _ (List.mem_append_left _ (List.mem_append_left _ (List.mem_append_right _ hw)))
  have c168 := hts (.constant RX8 168 (-1000002)) (by decide +kernel)
  have c80 := hts (.constant RX8 80 (-1000001)) (by decide +kernel)
  have hl : lv_has ls 2 [(0, .ref (uP 0)), (1, .int a1)] := hl
  have hre : ∀ (x : Int32) (τL : MS) (τK : MS) (pc : Nat) (ls : Array Slot) (H : Heap) (locs : List Loc), (some (x, τL, τK) : Option (Int32 × MS × MS)) = some (r, σL', σK') → va_P D vwCl (pw uP uL uG uR uT uC uA uK uW uI cI cB cR cM cJ σP τL σG σR σT σC σA τK ω ι) H → va_D A (pw uP uL uG uR uT uC uA uK uW uI cI cB cR cM cJ σP τL σG σR σT σC σA τK ω ι) → va_S A s.heap H locs → decode cX8_send pc = .ok (.ireturn, 1) → W p l e R s m args below meth c H locs 0 0 Q (F0 m pc ls [.int x]) := by intro x τL τK pc ls H locs he; cases he; exact hret pc ls H locs
  unfold FP_send at hf
  refine lv_aload_n hx hb dX8_send_0 rfl (lv_at hl 0 rfl) ?_
  refine lv_iload_n hx hb dX8_send_1 rfl (lv_at hl 1 rfl) ?_
  obtain ⟨r1, hr1, hf⟩ := bi_some hf
  refine kz_w (ci := 7) (q0 := 0) (n := 1) S hRf hRl hK hA hZ hP hD hS hl [.int a1] [] (kP_noCoin l D uP uL uG uR uT uC uA uK uW uI cI cB cR cM cJ t σP σL σG σR σT σC σA σK ω ι a1 r1 hr1) gX8_send_X8_noCoin rfl (by decide +kernel) rfl ⟨by decide, by decide⟩ rfl rfl rfl rfl (Nat.le_of_ble_eq_true rfl) dX8_send_2 (fun H locs hP hD hS => ?_)
  refine W.eq (g2 := F0 m 5 ls [.int r1]) rfl ?_
  refine lv_if_eq (tgt := 11) hx hb dX8_send_5 (by decide) (fun c2 => ?_) (fun c2 => ?_)
  · have hf := (if_pos c2).symm.trans hf
    refine lv_aload_n hx hb dX8_send_11 rfl (lv_at hl 0 rfl) ?_
    refine Pg_7 S hinX8 hK hP f57 dX8_send_12 ?_
    refine lv_iload_n hx hb dX8_send_15 rfl (lv_at hl 1 rfl) ?_
    obtain ⟨r3, hr3, hf⟩ := bi_some hf
    refine kz_v (ci := 4) (q0 := 0) (n := 1) S hRf hRl hK hA hZ hP hD hS hl [3, 4, 5, 6, 7] [.int a1] [] (kL_canGoHome l D uL cI cB cR cM cJ t σL a1 r3 hr3) pw_cL rfl rfl gX8_send_X5_canGoHome rfl (by decide +kernel) rfl ⟨by decide, by decide⟩ rfl rfl rfl rfl (Nat.le_of_ble_eq_true rfl) dX8_send_16 (fun H locs hP hD hS => ?_)
    rw [pw_kL] at hP hD
    refine W.eq (g2 := F0 m 19 ls [.int r3]) rfl ?_
    refine lv_if_ne (tgt := 25) hx hb dX8_send_19 (by decide) (fun c4 => ?_) (fun c4 => ?_)
    · have hf := (if_neg c4).symm.trans hf
      refine lv_aload_n hx hb dX8_send_25 rfl (lv_at hl 0 rfl) ?_
      refine lv_iload_n hx hb dX8_send_26 rfl (lv_at hl 1 rfl) ?_
      obtain ⟨r5, σ6, σ7, hr5, hf⟩ := bd3_some hf
      refine kz_w (ci := 7) (q0 := 0) (n := 1) S hRf hRl hK hA hZ hP hD hS hl [.int a1] [] (kP_sendKept l D uP uL uG uR uT uC uA uK uW uI cI cB cR cM cJ t σP σL σG σR σT σC σA σK ω ι a1 r5 σ6 σ7 hr5) gX8_send_X8_sendKept rfl (by decide +kernel) rfl ⟨by decide, by decide⟩ rfl rfl rfl rfl (Nat.le_of_ble_eq_true rfl) dX8_send_27 (fun H locs hP hD hS => ?_)
      refine W.eq (g2 := F0 m 30 ls [.int r5]) rfl ?_
      exact hre _ _ _ _ _ _ _ hf hP hD hS dX8_send_30
    · have hf := (if_pos c4).symm.trans hf
      refine lv_ldc (v := (-1000002)) hx hb hown c168 dX8_send_22 ?_
      exact hre _ _ _ _ _ _ _ hf hP hD hS dX8_send_24
  · have hf := (if_neg c2).symm.trans hf
    refine lv_ldc (v := (-1000001)) hx hb hown c80 dX8_send_8 ?_
    exact hre _ _ _ _ _ _ _ hf hP hD hS dX8_send_10
def FP_sendAll_154 (ag112 : MS → MS → MS → (Nat → MS) → Int32 → Int32 → Nat → Int32 → Int32 → Option (Int32 × MS × MS × MS)) (σP : MS) (σL : MS) (σK : MS) (ω : (Nat → MS)) (l2 : Int32) (l3 : Int32) (l4 : Nat) (l5 : Int32) (l6 : Int32) : Option (Int32 × MS × MS × MS) :=
  nm (l6 + 1) fun (x39 : Int32) => ag112 σP σL σK ω l2 l3 l4 l5 x39
def FP_sendAll_112 : Nat → MS → MS → MS → (Nat → MS) → Int32 → Int32 → Nat → Int32 → Int32 → Option (Int32 × MS × MS × MS)
  | 0, _, _, _, _, _, _, _, _, _ => none
  | n + 1, σP, σL, σK, ω, l2, l3, l4, l5, l6 => if (l2 + l3) ≤ l6 then (bd2 (FP_answered σP l5) fun (r25 : Int32) (σ26 : MS) => some (r25, σ26, σL, σK)) else (gd (l4 < 8) (gd (l4 < 8) (gd (¬ ((l6 : Int32) < 0 ∨ 40 ≤ Int32.toNatClampNeg l6)) (Option.bind (FL_canGoHome σL ((ω l4).2 0 (Int32.toNatClampNeg l6))) fun (r30 : Int32) => if r30 = 0 then (FP_sendAll_154 (FP_sendAll_112 n) σP σL σK ω l2 l3 l4 l5 l6) else (gd (l4 < 8) (gd (l4 < 8) (gd (¬ ((l6 : Int32) < 0 ∨ 40 ≤ Int32.toNatClampNeg l6)) (bd3 (FP_sendKept σL σK ((ω l4).2 0 (Int32.toNatClampNeg l6))) fun (r35 : Int32) (σ36 : MS) (σ37 : MS) => nm (l5 + 1) fun (x38 : Int32) => FP_sendAll_154 (FP_sendAll_112 n) σP σ36 σ37 ω l2 l3 l4 x38 l6))))))))
def FP_sendAll_74 : Nat → MS → MS → MS → (Nat → MS) → Int32 → Int32 → Nat → Int32 → Option (Int32 × MS × MS × MS)
  | 0, _, _, _, _, _, _, _, _ => none
  | n + 1, σP, σL, σK, ω, l2, l3, l4, l5 => if (l2 + l3) ≤ l5 then (FP_sendAll_112 fuelN σP σL σK ω l2 l3 l4 0 l2) else (gd (l4 < 8) (gd (l4 < 8) (gd (¬ ((l5 : Int32) < 0 ∨ 40 ≤ Int32.toNatClampNeg l5)) (Option.bind (FP_noCoin σL ((ω l4).2 0 (Int32.toNatClampNeg l5))) fun (r21 : Int32) => if r21 = 0 then (nm (l5 + 1) fun (x23 : Int32) => (FP_sendAll_74 n) σP σL σK ω l2 l3 l4 x23) else (some ((-1000001), σP, σL, σK))))))
def FP_sendAll (σP : MS) (σL : MS) (σK : MS) (ω : (Nat → MS)) (a1 : Int32) (a2 : Int32) (a3 : Int32) : Option (Int32 × MS × MS × MS) :=
  if (σL.1 4) = 0 then (some ((-1000002), σP, σL, σK)) else (Option.bind (FP_noRow a1) fun (r2 : Int32) => if r2 = 0 then (Option.bind (FP_outside a3 1 12) fun (r4 : Int32) => if r4 = 0 then (gd (¬ ((a1 : Int32) < 0 ∨ 8 ≤ Int32.toNatClampNeg a1)) (gd ((Int32.toNatClampNeg a1) < 8) (Option.bind (FW_missing (ω (Int32.toNatClampNeg a1))) fun (r7 : Int32) => if r7 = 0 then (gd ((Int32.toNatClampNeg a1) < 8) (Option.bind (FW_holds (ω (Int32.toNatClampNeg a1)) a2 a3) fun (r10 : Int32) => if r10 = 0 then (bd2 (FP_found σP 2) fun (r13 : Int32) (σ14 : MS) => some (r13, σ14, σL, σK)) else (FP_sendAll_74 fuelN σP σL σK ω a2 a3 (Int32.toNatClampNeg a1) a2))) else (bd2 (FP_found σP 1) fun (r15 : Int32) (σ16 : MS) => some (r15, σ16, σL, σK))))) else (some ((-1000001), σP, σL, σK))) else (some ((-1000001), σP, σL, σK)))
set_option maxHeartbeats 4000000 in
set_option maxRecDepth 100000 in
theorem kP_sendAll (l : Launch) (D : va_G) (uP uL uG uR uT uC uA uK : Nat → Nat) (uW uI : Nat → Nat → Nat) (cI cB cR cM cJ : ClassId) (t : Nat → Nat) (σP σL σG σR σT σC σA σK : MS) (ω ι : Nat → MS) (a1 : Int32) (a2 : Int32) (a3 : Int32) (r : Int32) (σP' : MS) (σL' : MS) (σK' : MS) (hf : FP_sendAll σP σL σK ω a1 a2 a3 = some (r, σP', σL', σK')) : KZ l D (ctys cI cB cR cM cJ) t yX8_sendAll wsX8_sendAll 4 102 [.ref (uP 0), .int a1, .int a2, .int a3] (pw uP uL uG uR uT uC uA uK uW uI cI cB cR cM cJ σP σL σG σR σT σC σA σK ω ι) (some (.int r)) (pw uP uL uG uR uT uC uA uK uW uI cI cB cR cM cJ σP' σL' σG σR σT σC σA σK' ω ι) := by
  refine KZ.ofI (own := RX8) (cc := cX8_sendAll) (maxL := 7) (by decide) rfl rfl (Nat.le_of_ble_eq_true rfl) ?_
  intro p e s m args below meth c R Q A ls S hRf hRl hK hA hP hD hS hl hZ hret
  obtain ⟨hx, hb, hml, hown, hts⟩ := id S
  have f57 := hts (.fieldLink RX8 57 "PenniesAway" "kingdom" "LPenniesAway$Realm;") (by decide +kernel)
  have hinX8 : ∀ w ∈ wsX80, w ∈ wsX8_sendAll := fun w hw => List.mem_cons_of_mem _ (List.mem_append_left _ (List.mem_append_left _ (List.mem_append_left _ (List.mem_append_right _ hw))))
  have f185 := hts (.fieldLink RX8 185 "PenniesAway$Realm" "told" "Z") (by decide +kernel)
  have hinX5 : ∀ w ∈ wsX50, w ∈ wsX8_sendAll := fun w hw => List.mem_cons_of_mem _ (List.mem_append_left _ (List.mem_append_left _ (List.mem_append_right _ hw)))
  have c80 := hts (.constant RX8 80 (-1000001)) (by decide +kernel)
  have f11 := hts (.fieldLink RX8 11 "PenniesAway" "rows" "[LPenniesAway$Row;") (by decide +kernel)
  have c168 := hts (.constant RX8 168 (-1000002)) (by decide +kernel)
  have f107 := hts (.fieldLink RX8 107 "PenniesAway$Row" "items" "[I") (by decide +kernel)
  have hinX6 : ∀ w ∈ wsX60, w ∈ wsX8_sendAll := fun w hw => List.mem_cons_of_mem _ (List.mem_append_left _ (List.mem_append_right _ hw))
  have hl : lv_has ls 7 [(0, .ref (uP 0)), (1, .int a1), (2, .int a2), (3, .int a3)] := hl
  have hre : ∀ (x : Int32) (τP : MS) (τL : MS) (τK : MS) (pc : Nat) (ls : Array Slot) (H : Heap) (locs : List Loc), (some (x, τP, τL, τK) : Option (Int32 × MS × MS × MS)) = some (r, σP', σL', σK') → va_P D vwCl (pw uP uL uG uR uT uC uA uK uW uI cI cB cR cM cJ τP τL σG σR σT σC σA τK ω ι) H → va_D A (pw uP uL uG uR uT uC uA uK uW uI cI cB cR cM cJ τP τL σG σR σT σC σA τK ω ι) → va_S A s.heap H locs → decode cX8_sendAll pc = .ok (.ireturn, 1) → W p l e R s m args below meth c H locs 0 0 Q (F0 m pc ls [.int x]) := by intro x τP τL τK pc ls H locs he; cases he; exact hret pc ls H locs
  have b154 : ∀ (ag112 : MS → MS → MS → (Nat → MS) → Int32 → Int32 → Nat → Int32 → Int32 → Option (Int32 × MS × MS × MS)) (hag112 : ∀ (σP : MS) (σL : MS) (σK : MS) (l2 : Int32) (l3 : Int32) (l4 : Nat) (l5 : Int32) (l6 : Int32) (ls : Array Slot) (H : Heap) (locs : List Loc), ag112 σP σL σK ω l2 l3 l4 l5 l6 = some (r, σP', σL', σK') → lv_has ls 7 [(0, .ref (uP 0)), (2, .int l2), (3, .int l3), (4, .ref (uW l4 0)), (5, .int l5), (6, .int l6)] → va_P D vwCl (pw uP uL uG uR uT uC uA uK uW uI cI cB cR cM cJ σP σL σG σR σT σC σA σK ω ι) H → va_D A (pw uP uL uG uR uT uC uA uK uW uI cI cB cR cM cJ σP σL σG σR σT σC σA σK ω ι) → va_S A s.heap H locs → W p l e R s m args below meth c H locs 0 0 Q (F0 m 112 ls [])), ∀ (σP : MS) (σL : MS) (σK : MS) (l2 : Int32) (l3 : Int32) (l4 : Nat) (l5 : Int32) (l6 : Int32) (ls : Array Slot) (H : Heap) (locs : List Loc), FP_sendAll_154 ag112 σP σL σK ω l2 l3 l4 l5 l6 = some (r, σP', σL', σK') → lv_has ls 7 [(0, .ref (uP 0)), (2, .int l2), (3, .int l3), (4, .ref (uW l4 0)), (5, .int l5), (6, .int l6)] → va_P D vwCl (pw uP uL uG uR uT uC uA uK uW uI cI cB cR cM cJ σP σL σG σR σT σC σA σK ω ι) H → va_D A (pw uP uL uG uR uT uC uA uK uW uI cI cB cR cM cJ σP σL σG σR σT σC σA σK ω ι) → va_S A s.heap H locs → W p l e R s m args below meth c H locs 0 0 Q (F0 m 154 ls []) := by
    intro ag112 hag112 σP σL σK l2 l3 l4 l5 l6 ls H locs hf hl hP hD hS
    unfold FP_sendAll_154 at hf
    obtain ⟨x39, ex39, hf⟩ := nm_some hf
    refine lv_iinc (v := x39) (lv' := [(6, .int x39), (0, .ref (uP 0)), (2, .int l2), (3, .int l3), (4, .ref (uW l4 0)), (5, .int l5)]) hx hb dX8_sendAll_154 hl (k := 5) rfl (by rw [ex39]; rfl) (by decide) rfl (fun ls hl => ?_)
    refine lv_goto (tgt := 112) hx hb dX8_sendAll_157 (by decide) ?_
    exact hag112 _ _ _ _ _ _ _ _ _ _ _ hf (lv_sub hl [1, 2, 3, 4, 5, 0] rfl) hP hD hS
  have b112 : ∀ (n : Nat), ∀ (σP : MS) (σL : MS) (σK : MS) (l2 : Int32) (l3 : Int32) (l4 : Nat) (l5 : Int32) (l6 : Int32) (ls : Array Slot) (H : Heap) (locs : List Loc), FP_sendAll_112 n σP σL σK ω l2 l3 l4 l5 l6 = some (r, σP', σL', σK') → lv_has ls 7 [(0, .ref (uP 0)), (2, .int l2), (3, .int l3), (4, .ref (uW l4 0)), (5, .int l5), (6, .int l6)] → va_P D vwCl (pw uP uL uG uR uT uC uA uK uW uI cI cB cR cM cJ σP σL σG σR σT σC σA σK ω ι) H → va_D A (pw uP uL uG uR uT uC uA uK uW uI cI cB cR cM cJ σP σL σG σR σT σC σA σK ω ι) → va_S A s.heap H locs → W p l e R s m args below meth c H locs 0 0 Q (F0 m 112 ls []) := by
    intro n
    induction n with
    | zero => intro σP σL σK l2 l3 l4 l5 l6 ls H locs hf; exact absurd hf (by simp [FP_sendAll_112])
    | succ n ih =>
      intro σP σL σK l2 l3 l4 l5 l6 ls H locs hf hl hP hD hS
      rw [FP_sendAll_112] at hf
      refine lv_iload hx hb dX8_sendAll_112 (lv_at hl 5 rfl) ?_
      refine lv_iload_n hx hb dX8_sendAll_114 rfl (lv_at hl 1 rfl) ?_
      refine lv_iload_n hx hb dX8_sendAll_115 rfl (lv_at hl 2 rfl) ?_
      refine lv_iadd hx hb dX8_sendAll_116 ?_
      refine lv_icmp_ge (tgt := 160) hx hb dX8_sendAll_117 (by decide) (fun c24 => ?_) (fun c24 => ?_)
      · have hf := (if_pos c24).symm.trans hf
        refine lv_aload_n hx hb dX8_sendAll_160 rfl (lv_at hl 0 rfl) ?_
        refine lv_iload hx hb dX8_sendAll_161 (lv_at hl 4 rfl) ?_
        obtain ⟨r25, σ26, hr25, hf⟩ := bd2_some hf
        refine kz_w (ci := 7) (q0 := 0) (n := 1) S hRf hRl hK hA hZ hP hD hS hl [.int l5] [] (kP_answered l D uP uL uG uR uT uC uA uK uW uI cI cB cR cM cJ t σP σL σG σR σT σC σA σK ω ι l5 r25 σ26 hr25) gX8_sendAll_X8_answered rfl (by decide +kernel) rfl ⟨by decide, by decide⟩ rfl rfl rfl rfl (Nat.le_of_ble_eq_true rfl) dX8_sendAll_163 (fun H locs hP hD hS => ?_)
        refine W.eq (g2 := F0 m 166 ls [.int r25]) rfl ?_
        exact hre _ _ _ _ _ _ _ _ hf hP hD hS dX8_sendAll_166
      · have hf := (if_neg c24).symm.trans hf
        refine lv_aload_n hx hb dX8_sendAll_120 rfl (lv_at hl 0 rfl) ?_
        refine Pg_7 S hinX8 hK hP f57 dX8_sendAll_121 ?_
        refine lv_aload hx hb dX8_sendAll_124 (lv_at hl 3 rfl) ?_
        obtain ⟨k27, hf⟩ := gd_some hf
        refine Wg_0 S hinX6 hK hP (47 + 2 * l4) (pw_rowAt l4 k27) f107 dX8_sendAll_126 ?_
        refine lv_iload hx hb dX8_sendAll_129 (lv_at hl 5 rfl) ?_
        obtain ⟨k28, hf⟩ := gd_some hf
        obtain ⟨g29, hf⟩ := gd_some hf
        refine va_iald (f := (ω l4).2 0) (n := 40) (cA := cI) hx hb hK hP (48 + 2 * l4) 0 (pw_itAt l4 k28) rfl g29 dX8_sendAll_131 ?_
        obtain ⟨r30, hr30, hf⟩ := bi_some hf
        refine kz_v (ci := 4) (q0 := 0) (n := 1) S hRf hRl hK hA hZ hP hD hS hl [3, 4, 5, 6, 7] [.int ((ω l4).2 0 (Int32.toNatClampNeg l6))] [] (kL_canGoHome l D uL cI cB cR cM cJ t σL ((ω l4).2 0 (Int32.toNatClampNeg l6)) r30 hr30) pw_cL rfl rfl gX8_sendAll_X5_canGoHome rfl (by decide +kernel) rfl ⟨by decide, by decide⟩ rfl rfl rfl rfl (Nat.le_of_ble_eq_true rfl) dX8_sendAll_132 (fun H locs hP hD hS => ?_)
        rw [pw_kL] at hP hD
        refine W.eq (g2 := F0 m 135 ls [.int r30]) rfl ?_
        refine lv_if_eq (tgt := 154) hx hb dX8_sendAll_135 (by decide) (fun c31 => ?_) (fun c31 => ?_)
        · have hf := (if_pos c31).symm.trans hf
          exact b154 (FP_sendAll_112 n) ih _ _ _ _ _ _ _ _ _ _ _ hf (lv_sub hl [0, 1, 2, 3, 4, 5] rfl) hP hD hS
        · have hf := (if_neg c31).symm.trans hf
          refine lv_aload_n hx hb dX8_sendAll_138 rfl (lv_at hl 0 rfl) ?_
          refine lv_aload hx hb dX8_sendAll_139 (lv_at hl 3 rfl) ?_
          obtain ⟨k32, hf⟩ := gd_some hf
          refine Wg_0 S hinX6 hK hP (47 + 2 * l4) (pw_rowAt l4 k32) f107 dX8_sendAll_141 ?_
          refine lv_iload hx hb dX8_sendAll_144 (lv_at hl 5 rfl) ?_
          obtain ⟨k33, hf⟩ := gd_some hf
          obtain ⟨g34, hf⟩ := gd_some hf
          refine va_iald (f := (ω l4).2 0) (n := 40) (cA := cI) hx hb hK hP (48 + 2 * l4) 0 (pw_itAt l4 k33) rfl g34 dX8_sendAll_146 ?_
          obtain ⟨r35, σ36, σ37, hr35, hf⟩ := bd3_some hf
          refine kz_w (ci := 7) (q0 := 0) (n := 1) S hRf hRl hK hA hZ hP hD hS hl [.int ((ω l4).2 0 (Int32.toNatClampNeg l6))] [] (kP_sendKept l D uP uL uG uR uT uC uA uK uW uI cI cB cR cM cJ t σP σL σG σR σT σC σA σK ω ι ((ω l4).2 0 (Int32.toNatClampNeg l6)) r35 σ36 σ37 hr35) gX8_sendAll_X8_sendKept rfl (by decide +kernel) rfl ⟨by decide, by decide⟩ rfl rfl rfl rfl (Nat.le_of_ble_eq_true rfl) dX8_sendAll_147 (fun H locs hP hD hS => ?_)
          refine W.eq (g2 := F0 m 150 ls [.int r35]) rfl ?_
          refine lv_pop hx hb dX8_sendAll_150 rfl ?_
          obtain ⟨x38, ex38, hf⟩ := nm_some hf
          refine lv_iinc (v := x38) (lv' := [(5, .int x38), (0, .ref (uP 0)), (2, .int l2), (3, .int l3), (4, .ref (uW l4 0)), (6, .int l6)]) hx hb dX8_sendAll_151 hl (k := 4) rfl (by rw [ex38]; rfl) (by decide) rfl (fun ls hl => ?_)
          exact b154 (FP_sendAll_112 n) ih _ _ _ _ _ _ _ _ _ _ _ hf (lv_sub hl [1, 2, 3, 4, 0, 5] rfl) hP hD hS
  have b74 : ∀ (n : Nat), ∀ (σP : MS) (σL : MS) (σK : MS) (l2 : Int32) (l3 : Int32) (l4 : Nat) (l5 : Int32) (ls : Array Slot) (H : Heap) (locs : List Loc), FP_sendAll_74 n σP σL σK ω l2 l3 l4 l5 = some (r, σP', σL', σK') → lv_has ls 7 [(0, .ref (uP 0)), (2, .int l2), (3, .int l3), (4, .ref (uW l4 0)), (5, .int l5)] → va_P D vwCl (pw uP uL uG uR uT uC uA uK uW uI cI cB cR cM cJ σP σL σG σR σT σC σA σK ω ι) H → va_D A (pw uP uL uG uR uT uC uA uK uW uI cI cB cR cM cJ σP σL σG σR σT σC σA σK ω ι) → va_S A s.heap H locs → W p l e R s m args below meth c H locs 0 0 Q (F0 m 74 ls []) := by
    intro n
    induction n with
    | zero => intro σP σL σK l2 l3 l4 l5 ls H locs hf; exact absurd hf (by simp [FP_sendAll_74])
    | succ n ih =>
      intro σP σL σK l2 l3 l4 l5 ls H locs hf hl hP hD hS
      rw [FP_sendAll_74] at hf
      refine lv_iload hx hb dX8_sendAll_74 (lv_at hl 4 rfl) ?_
      refine lv_iload_n hx hb dX8_sendAll_76 rfl (lv_at hl 1 rfl) ?_
      refine lv_iload_n hx hb dX8_sendAll_77 rfl (lv_at hl 2 rfl) ?_
      refine lv_iadd hx hb dX8_sendAll_78 ?_
      refine lv_icmp_ge (tgt := 106) hx hb dX8_sendAll_79 (by decide) (fun c17 => ?_) (fun c17 => ?_)
      · have hf := (if_pos c17).symm.trans hf
        refine lv_iconst (v := 0) hx hb dX8_sendAll_106 (by decide) ?_
        refine lv_istore (lv' := [(5, .int 0), (0, .ref (uP 0)), (2, .int l2), (3, .int l3), (4, .ref (uW l4 0))]) hx hb dX8_sendAll_107 hl (by decide) rfl (fun ls hl => ?_)
        refine lv_iload_n hx hb dX8_sendAll_109 rfl (lv_at hl 2 rfl) ?_
        refine lv_istore (lv' := [(6, .int l2), (5, .int 0), (0, .ref (uP 0)), (2, .int l2), (3, .int l3), (4, .ref (uW l4 0))]) hx hb dX8_sendAll_110 hl (by decide) rfl (fun ls hl => ?_)
        exact b112 fuelN _ _ _ _ _ _ _ _ _ _ _ hf (lv_sub hl [2, 3, 4, 5, 1, 0] rfl) hP hD hS
      · have hf := (if_neg c17).symm.trans hf
        refine lv_aload_n hx hb dX8_sendAll_82 rfl (lv_at hl 0 rfl) ?_
        refine lv_aload hx hb dX8_sendAll_83 (lv_at hl 3 rfl) ?_
        obtain ⟨k18, hf⟩ := gd_some hf
        refine Wg_0 S hinX6 hK hP (47 + 2 * l4) (pw_rowAt l4 k18) f107 dX8_sendAll_85 ?_
        refine lv_iload hx hb dX8_sendAll_88 (lv_at hl 4 rfl) ?_
        obtain ⟨k19, hf⟩ := gd_some hf
        obtain ⟨g20, hf⟩ := gd_some hf
        refine va_iald (f := (ω l4).2 0) (n := 40) (cA := cI) hx hb hK hP (48 + 2 * l4) 0 (pw_itAt l4 k19) rfl g20 dX8_sendAll_90 ?_
        obtain ⟨r21, hr21, hf⟩ := bi_some hf
        refine kz_w (ci := 7) (q0 := 0) (n := 1) S hRf hRl hK hA hZ hP hD hS hl [.int ((ω l4).2 0 (Int32.toNatClampNeg l5))] [] (kP_noCoin l D uP uL uG uR uT uC uA uK uW uI cI cB cR cM cJ t σP σL σG σR σT σC σA σK ω ι ((ω l4).2 0 (Int32.toNatClampNeg l5)) r21 hr21) gX8_sendAll_X8_noCoin rfl (by decide +kernel) rfl ⟨by decide, by decide⟩ rfl rfl rfl rfl (Nat.le_of_ble_eq_true rfl) dX8_sendAll_91 (fun H locs hP hD hS => ?_)
        refine W.eq (g2 := F0 m 94 ls [.int r21]) rfl ?_
        refine lv_if_eq (tgt := 100) hx hb dX8_sendAll_94 (by decide) (fun c22 => ?_) (fun c22 => ?_)
        · have hf := (if_pos c22).symm.trans hf
          obtain ⟨x23, ex23, hf⟩ := nm_some hf
          refine lv_iinc (v := x23) (lv' := [(5, .int x23), (0, .ref (uP 0)), (2, .int l2), (3, .int l3), (4, .ref (uW l4 0))]) hx hb dX8_sendAll_100 hl (k := 4) rfl (by rw [ex23]; rfl) (by decide) rfl (fun ls hl => ?_)
          refine lv_goto (tgt := 74) hx hb dX8_sendAll_103 (by decide) ?_
          exact ih _ _ _ _ _ _ _ _ _ _ hf (lv_sub hl [1, 2, 3, 4, 0] rfl) hP hD hS
        · have hf := (if_neg c22).symm.trans hf
          refine lv_ldc (v := (-1000001)) hx hb hown c80 dX8_sendAll_97 ?_
          exact hre _ _ _ _ _ _ _ _ hf hP hD hS dX8_sendAll_99
  unfold FP_sendAll at hf
  refine lv_aload_n hx hb dX8_sendAll_0 rfl (lv_at hl 0 rfl) ?_
  refine Pg_7 S hinX8 hK hP f57 dX8_sendAll_1 ?_
  refine Lg_4 S hinX5 hK hP 3 rfl f185 dX8_sendAll_4 ?_
  refine lv_if_ne (tgt := 13) hx hb dX8_sendAll_7 (by decide) (fun c1 => ?_) (fun c1 => ?_)
  · have hf := (if_neg c1).symm.trans hf
    refine lv_iload_n hx hb dX8_sendAll_13 rfl (lv_at hl 1 rfl) ?_
    obtain ⟨r2, hr2, hf⟩ := bi_some hf
    refine kz_s (n := 1) S hRf hRl hK hA hZ hP hD hS hl [] [.int a1] [] (kP_noRow l D cI cB cR cM cJ t [] a1 r2 hr2) rfl rfl rfl gX8_sendAll_X8_noRow rfl (by decide +kernel) rfl ⟨by decide, by decide⟩ rfl (Nat.le_of_ble_eq_true rfl) dX8_sendAll_14 (fun H locs hP hD hS => ?_)
    replace hP : va_P D vwCl (pw uP uL uG uR uT uC uA uK uW uI cI cB cR cM cJ σP σL σG σR σT σC σA σK ω ι) H := hP
    replace hD : va_D A (pw uP uL uG uR uT uC uA uK uW uI cI cB cR cM cJ σP σL σG σR σT σC σA σK ω ι) := hD
    refine W.eq (g2 := F0 m 17 ls [.int r2]) rfl ?_
    refine lv_if_ne (tgt := 30) hx hb dX8_sendAll_17 (by decide) (fun c3 => ?_) (fun c3 => ?_)
    · have hf := (if_neg c3).symm.trans hf
      refine lv_ldc (v := (-1000001)) hx hb hown c80 dX8_sendAll_30 ?_
      exact hre _ _ _ _ _ _ _ _ hf hP hD hS dX8_sendAll_32
    · have hf := (if_pos c3).symm.trans hf
      refine lv_iload_n hx hb dX8_sendAll_20 rfl (lv_at hl 3 rfl) ?_
      refine lv_iconst (v := 1) hx hb dX8_sendAll_21 (by decide) ?_
      refine lv_bipush (v := 12) hx hb dX8_sendAll_22 (by decide) ?_
      obtain ⟨r4, hr4, hf⟩ := bi_some hf
      refine kz_s (n := 3) S hRf hRl hK hA hZ hP hD hS hl [] [.int a3, .int 1, .int 12] [] (kP_outside l D cI cB cR cM cJ t [] a3 1 12 r4 hr4) rfl rfl rfl gX8_sendAll_X8_outside rfl (by decide +kernel) rfl ⟨by decide, by decide⟩ rfl (Nat.le_of_ble_eq_true rfl) dX8_sendAll_24 (fun H locs hP hD hS => ?_)
      replace hP : va_P D vwCl (pw uP uL uG uR uT uC uA uK uW uI cI cB cR cM cJ σP σL σG σR σT σC σA σK ω ι) H := hP
      replace hD : va_D A (pw uP uL uG uR uT uC uA uK uW uI cI cB cR cM cJ σP σL σG σR σT σC σA σK ω ι) := hD
      refine W.eq (g2 := F0 m 27 ls [.int r4]) rfl ?_
      refine lv_if_eq (tgt := 33) hx hb dX8_sendAll_27 (by decide) (fun c5 => ?_) (fun c5 => ?_)
      · have hf := (if_pos c5).symm.trans hf
        refine lv_aload_n hx hb dX8_sendAll_33 rfl (lv_at hl 0 rfl) ?_
        refine Pg_0 S hinX8 hK hP f11 dX8_sendAll_34 ?_
        refine lv_iload_n hx hb dX8_sendAll_37 rfl (lv_at hl 1 rfl) ?_
        obtain ⟨g6, hf⟩ := gd_some hf
        refine va_aldq (f := kRefs 8 (fun i => uW i 0)) (n := 8) (cA := cR) (C := RX6) hx hb hK hP 1 2 rfl rfl g6 dX8_sendAll_38 ?_
        refine W.eq (g2 := F0 m 39 ls [.ref (uW (Int32.toNatClampNeg a1) 0)]) (by rw [kRefs, if_pos (Nat.not_le.mp (fun q => g6 (Or.inr q)))]; rfl) ?_
        refine lv_astore (lv' := [(4, .ref (uW (Int32.toNatClampNeg a1) 0)), (0, .ref (uP 0)), (1, .int a1), (2, .int a2), (3, .int a3)]) hx hb dX8_sendAll_39 hl (by decide) rfl (fun ls hl => ?_)
        refine lv_aload hx hb dX8_sendAll_41 (lv_at hl 0 rfl) ?_
        obtain ⟨k8, hf⟩ := gd_some hf
        obtain ⟨r7, hr7, hf⟩ := bi_some hf
        refine kz_v (ci := 5) (q0 := 0) (n := 0) S hRf hRl hK hA hZ hP hD hS hl [47 + 2 * (Int32.toNatClampNeg a1), 48 + 2 * (Int32.toNatClampNeg a1)] [] [] (kW_missing l D (uW (Int32.toNatClampNeg a1)) cI cB cR cM cJ t (ω (Int32.toNatClampNeg a1)) r7 hr7) (pw_cW (Int32.toNatClampNeg a1) k8) (pw_nW (Int32.toNatClampNeg a1) k8) rfl gX8_sendAll_X6_missing rfl (by decide +kernel) rfl ⟨by decide, by decide⟩ rfl rfl rfl rfl (Nat.le_of_ble_eq_true rfl) dX8_sendAll_43 (fun H locs hP hD hS => ?_)
        rw [pw_kW (Int32.toNatClampNeg a1) k8, va_up_id] at hP hD
        refine W.eq (g2 := F0 m 46 ls [.int r7]) rfl ?_
        refine lv_if_eq (tgt := 55) hx hb dX8_sendAll_46 (by decide) (fun c9 => ?_) (fun c9 => ?_)
        · have hf := (if_pos c9).symm.trans hf
          refine lv_aload hx hb dX8_sendAll_55 (lv_at hl 0 rfl) ?_
          refine lv_iload_n hx hb dX8_sendAll_57 rfl (lv_at hl 3 rfl) ?_
          refine lv_iload_n hx hb dX8_sendAll_58 rfl (lv_at hl 4 rfl) ?_
          obtain ⟨k11, hf⟩ := gd_some hf
          obtain ⟨r10, hr10, hf⟩ := bi_some hf
          refine kz_v (ci := 5) (q0 := 0) (n := 2) S hRf hRl hK hA hZ hP hD hS hl [47 + 2 * (Int32.toNatClampNeg a1), 48 + 2 * (Int32.toNatClampNeg a1)] [.int a2, .int a3] [] (kW_holds l D (uW (Int32.toNatClampNeg a1)) cI cB cR cM cJ t (ω (Int32.toNatClampNeg a1)) a2 a3 r10 hr10) (pw_cW (Int32.toNatClampNeg a1) k11) (pw_nW (Int32.toNatClampNeg a1) k11) rfl gX8_sendAll_X6_holds rfl (by decide +kernel) rfl ⟨by decide, by decide⟩ rfl rfl rfl rfl (Nat.le_of_ble_eq_true rfl) dX8_sendAll_59 (fun H locs hP hD hS => ?_)
          rw [pw_kW (Int32.toNatClampNeg a1) k11, va_up_id] at hP hD
          refine W.eq (g2 := F0 m 62 ls [.int r10]) rfl ?_
          refine lv_if_ne (tgt := 71) hx hb dX8_sendAll_62 (by decide) (fun c12 => ?_) (fun c12 => ?_)
          · have hf := (if_neg c12).symm.trans hf
            refine lv_iload_n hx hb dX8_sendAll_71 rfl (lv_at hl 3 rfl) ?_
            refine lv_istore (lv' := [(5, .int a2), (4, .ref (uW (Int32.toNatClampNeg a1) 0)), (0, .ref (uP 0)), (1, .int a1), (2, .int a2), (3, .int a3)]) hx hb dX8_sendAll_72 hl (by decide) rfl (fun ls hl => ?_)
            exact b74 fuelN _ _ _ _ _ _ _ _ _ _ hf (lv_sub hl [2, 4, 5, 1, 0] rfl) hP hD hS
          · have hf := (if_pos c12).symm.trans hf
            refine lv_aload_n hx hb dX8_sendAll_65 rfl (lv_at hl 1 rfl) ?_
            refine lv_iconst (v := 2) hx hb dX8_sendAll_66 (by decide) ?_
            obtain ⟨r13, σ14, hr13, hf⟩ := bd2_some hf
            refine kz_w (ci := 7) (q0 := 0) (n := 1) S hRf hRl hK hA hZ hP hD hS hl [.int 2] [] (kP_found l D uP uL uG uR uT uC uA uK uW uI cI cB cR cM cJ t σP σL σG σR σT σC σA σK ω ι 2 r13 σ14 hr13) gX8_sendAll_X8_found rfl (by decide +kernel) rfl ⟨by decide, by decide⟩ rfl rfl rfl rfl (Nat.le_of_ble_eq_true rfl) dX8_sendAll_67 (fun H locs hP hD hS => ?_)
            refine W.eq (g2 := F0 m 70 ls [.int r13]) rfl ?_
            exact hre _ _ _ _ _ _ _ _ hf hP hD hS dX8_sendAll_70
        · have hf := (if_neg c9).symm.trans hf
          refine lv_aload_n hx hb dX8_sendAll_49 rfl (lv_at hl 1 rfl) ?_
          refine lv_iconst (v := 1) hx hb dX8_sendAll_50 (by decide) ?_
          obtain ⟨r15, σ16, hr15, hf⟩ := bd2_some hf
          refine kz_w (ci := 7) (q0 := 0) (n := 1) S hRf hRl hK hA hZ hP hD hS hl [.int 1] [] (kP_found l D uP uL uG uR uT uC uA uK uW uI cI cB cR cM cJ t σP σL σG σR σT σC σA σK ω ι 1 r15 σ16 hr15) gX8_sendAll_X8_found rfl (by decide +kernel) rfl ⟨by decide, by decide⟩ rfl rfl rfl rfl (Nat.le_of_ble_eq_true rfl) dX8_sendAll_51 (fun H locs hP hD hS => ?_)
          refine W.eq (g2 := F0 m 54 ls [.int r15]) rfl ?_
          exact hre _ _ _ _ _ _ _ _ hf hP hD hS dX8_sendAll_54
      · have hf := (if_neg c5).symm.trans hf
        refine lv_ldc (v := (-1000001)) hx hb hown c80 dX8_sendAll_30 ?_
        exact hre _ _ _ _ _ _ _ _ hf hP hD hS dX8_sendAll_32
  · have hf := (if_pos c1).symm.trans hf
    refine lv_ldc (v := (-1000002)) hx hb hown c168 dX8_sendAll_10 ?_
    exact hre _ _ _ _ _ _ _ _ hf hP hD hS dX8_sendAll_12
