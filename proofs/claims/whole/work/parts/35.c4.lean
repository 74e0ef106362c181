def FC_plan (σC : MS) (σL : MS) (a2 : Int32) : Option (Int32 × MS) :=
  Option.bind (FJ_bitCount_0f7a4 a2) fun (r1 : Int32) => nm (setF σC 2 r1) fun (σ2 : MS) => nm (setF σ2 3 (-1000000)) fun (σ3 : MS) => Option.bind (FC_goOn 8 σ3 σL a2 0 0 0) fun (σ5 : MS) => some ((σ5.1 3), σ5)
set_option maxHeartbeats 4000000 in
set_option maxRecDepth 100000 in
theorem kC_plan (l : Launch) (D : va_G) (uC uL : Nat → Nat) (cI cB cR cM cJ : ClassId) (t : Nat → Nat) (σC : MS) (σL : MS) (a2 : Int32) (r : Int32) (σC' : MS) (hf : FC_plan σC σL a2 = some (r, σC')) : KZ l D (ctys cI cB cR cM cJ) t yX2_plan wsX2_plan 12 969 [.ref (uC 0), .ref (uL 0), .int a2] (xC uC cI cB cR cM cJ σC ++ xL uL cI cB cR cM cJ σL) (some (.int r)) (xC uC cI cB cR cM cJ σC' ++ xL uL cI cB cR cM cJ σL) := by
  refine KZ.ofI (own := RX2) (cc := cX2_plan) (maxL := 3) (by decide) rfl rfl (Nat.le_of_ble_eq_true rfl) ?_
  intro p e s m args below meth c R Q A ls S hRf hRl hK hA hP hD hS hl hZ hret
  obtain ⟨hx, hb, hml, hown, hts⟩ := id S
  have f20 := hts (.fieldLink RX2 20 "PenniesAway$Carrier" "stops" "I") (by decide +kernel)
  have hinX2 : ∀ w ∈ wsX20, w ∈ wsX2_plan := fun w hw => List.mem_cons_of_mem _ (List.mem_append_left _ (List.mem_append_right _ hw))
  have c24 := hts (.constant RX2 24 (-1000000)) (by decide +kernel)
  have f25 := hts (.fieldLink RX2 25 "PenniesAway$Carrier" "fewest" "I") (by decide +kernel)
  have hl : lv_has ls 3 [(0, .ref (uC 0)), (1, .ref (uL 0)), (2, .int a2)] := hl
  have hre : ∀ (x : Int32) (τC : MS) (pc : Nat) (ls : Array Slot) (H : Heap) (locs : List Loc), (some (x, τC) : Option (Int32 × MS)) = some (r, σC') → va_P D vwCl (xC uC cI cB cR cM cJ τC ++ xL uL cI cB cR cM cJ σL) H → va_D A (xC uC cI cB cR cM cJ τC ++ xL uL cI cB cR cM cJ σL) → va_S A s.heap H locs → decode cX2_plan pc = .ok (.ireturn, 1) → W p l e R s m args below meth c H locs 0 0 Q (F0 m pc ls [.int x]) := by intro x τC pc ls H locs he; cases he; exact hret pc ls H locs
  unfold FC_plan at hf
  refine lv_aload_n hx hb dX2_plan_0 rfl (lv_at hl 0 rfl) ?_
  refine lv_iload_n hx hb dX2_plan_1 rfl (lv_at hl 2 rfl) ?_
  obtain ⟨r1, hr1, hf⟩ := bi_some hf
  refine kz_s (n := 1) S hRf hRl hK hA hZ hP hD hS hl [] [.int a2] [.ref (uC 0)] (kJ_bitCount_0f7a4 l D cI cB cR cM cJ t [] a2 r1 hr1) rfl rfl rfl gX2_plan_J6_bitCount_0f7a4 rfl (by decide +kernel) rfl ⟨by decide, by decide⟩ rfl (Nat.le_of_ble_eq_true rfl) dX2_plan_2 (fun H locs hP hD hS => ?_)
  replace hP : va_P D vwCl (xC uC cI cB cR cM cJ σC ++ xL uL cI cB cR cM cJ σL) H := hP
  replace hD : va_D A (xC uC cI cB cR cM cJ σC ++ xL uL cI cB cR cM cJ σL) := hD
  refine W.eq (g2 := F0 m 5 ls [.int r1, .ref (uC 0)]) rfl ?_
  refine Cp_2 S hinX2 hK hP hD hS 0 rfl f20 dX2_plan_5 (fun H locs hP hD hS => ?_)
  obtain ⟨σ2, eσ2, hf⟩ := nm_some hf
  replace hP : va_P D vwCl (xC uC cI cB cR cM cJ σ2 ++ xL uL cI cB cR cM cJ σL) H := by rw [eσ2]; exact hP
  replace hD : va_D A (xC uC cI cB cR cM cJ σ2 ++ xL uL cI cB cR cM cJ σL) := by rw [eσ2]; exact hD
  refine lv_aload_n hx hb dX2_plan_8 rfl (lv_at hl 0 rfl) ?_
  refine lv_ldc (v := (-1000000)) hx hb hown c24 dX2_plan_9 ?_
  refine Cp_3 S hinX2 hK hP hD hS 0 rfl f25 dX2_plan_11 (fun H locs hP hD hS => ?_)
  obtain ⟨σ3, eσ3, hf⟩ := nm_some hf
  replace hP : va_P D vwCl (xC uC cI cB cR cM cJ σ3 ++ xL uL cI cB cR cM cJ σL) H := by rw [eσ3]; exact hP
  replace hD : va_D A (xC uC cI cB cR cM cJ σ3 ++ xL uL cI cB cR cM cJ σL) := by rw [eσ3]; exact hD
  refine lv_aload_n hx hb dX2_plan_14 rfl (lv_at hl 0 rfl) ?_
  refine lv_aload_n hx hb dX2_plan_15 rfl (lv_at hl 1 rfl) ?_
  refine lv_iload_n hx hb dX2_plan_16 rfl (lv_at hl 2 rfl) ?_
  refine lv_iconst (v := 0) hx hb dX2_plan_17 (by decide) ?_
  refine lv_iconst (v := 0) hx hb dX2_plan_18 (by decide) ?_
  refine lv_iconst (v := 0) hx hb dX2_plan_19 (by decide) ?_
  obtain ⟨σ5, hr4, hf⟩ := bi_some hf
  refine kz_v (ci := 2) (q0 := 0) (n := 5) S hRf hRl hK hA hZ hP hD hS hl [0, 1, 2, 3, 4, 5, 6, 7] [.ref (uL 0), .int a2, .int 0, .int 0, .int 0] [] (kC_goOn l D uC uL cI cB cR cM cJ t 8 σ3 σL a2 0 0 0 σ5 hr4) rfl rfl rfl gX2_plan_X2_goOn rfl (by decide +kernel) rfl ⟨by decide, by decide⟩ rfl rfl rfl rfl (Nat.le_of_ble_eq_true rfl) dX2_plan_20 (fun H locs hP hD hS => ?_)
  replace hP : va_P D vwCl (xC uC cI cB cR cM cJ σ5 ++ xL uL cI cB cR cM cJ σL) H := hP
  replace hD : va_D A (xC uC cI cB cR cM cJ σ5 ++ xL uL cI cB cR cM cJ σL) := hD
  refine W.eq (g2 := F0 m 23 ls []) rfl ?_
  refine lv_aload_n hx hb dX2_plan_23 rfl (lv_at hl 0 rfl) ?_
  refine Cg_3 S hinX2 hK hP 0 rfl f25 dX2_plan_24 ?_
  exact hre _ _ _ _ _ _ hf hP hD hS dX2_plan_27
def FC_stop (σC : MS) (a1 : Int32) : Option Int32 :=
  Option.bind (FP_outside a1 0 ((σC.1 2) - 1)) fun (r1 : Int32) => if r1 = 0 then (gd (¬ ((a1 : Int32) < 0 ∨ 6 ≤ Int32.toNatClampNeg a1)) (some ((σC.2 0 (Int32.toNatClampNeg a1))))) else (some ((-1000000)))
set_option maxHeartbeats 4000000 in
set_option maxRecDepth 100000 in
theorem kC_stop (l : Launch) (D : va_G) (uC : Nat → Nat) (cI cB cR cM cJ : ClassId) (t : Nat → Nat) (σC : MS) (a1 : Int32) (r : Int32) (hf : FC_stop σC a1 = some (r)) : KZ l D (ctys cI cB cR cM cJ) t yX2_stop wsX2_stop 1 22 [.ref (uC 0), .int a1] (xC uC cI cB cR cM cJ σC) (some (.int r)) (xC uC cI cB cR cM cJ σC) := by
  refine KZ.ofI (own := RX2) (cc := cX2_stop) (maxL := 2) (by decide) rfl rfl (Nat.le_of_ble_eq_true rfl) ?_
  intro p e s m args below meth c R Q A ls S hRf hRl hK hA hP hD hS hl hZ hret
  obtain ⟨hx, hb, hml, hown, hts⟩ := id S
  have f20 := hts (.fieldLink RX2 20 "PenniesAway$Carrier" "stops" "I") (by decide +kernel)
  have hinX2 : ∀ w ∈ wsX20, w ∈ wsX2_stop := fun w hw => List.mem_cons_of_mem _ (List.mem_append_right _ hw)
  have oini := hts (.initialized RX8) (by decide +kernel)
  have osta := hts (.static yX8_outside) (by decide +kernel)
  have f11 := hts (.fieldLink RX2 11 "PenniesAway$Carrier" "order" "[I") (by decide +kernel)
  have c24 := hts (.constant RX2 24 (-1000000)) (by decide +kernel)
  have hl : lv_has ls 2 [(0, .ref (uC 0)), (1, .int a1)] := hl
  have hre : ∀ (x : Int32) (pc : Nat) (ls : Array Slot) (H : Heap) (locs : List Loc), (some (x) : Option Int32) = some (r) → va_P D vwCl (xC uC cI cB cR cM cJ σC) H → va_D A (xC uC cI cB cR cM cJ σC) → va_S A s.heap H locs → decode cX2_stop pc = .ok (.ireturn, 1) → W p l e R s m args below meth c H locs 0 0 Q (F0 m pc ls [.int x]) := by intro x pc ls H locs he; cases he; exact hret pc ls H locs
  unfold FC_stop at hf
  refine lv_iload_n hx hb dX2_stop_0 rfl (lv_at hl 1 rfl) ?_
  refine lv_iconst (v := 0) hx hb dX2_stop_1 (by decide) ?_
  refine lv_aload_n hx hb dX2_stop_2 rfl (lv_at hl 0 rfl) ?_
  refine Cg_2 S hinX2 hK hP 0 rfl f20 dX2_stop_3 ?_
  refine lv_iconst (v := 1) hx hb dX2_stop_6 (by decide) ?_
  refine lv_isub hx hb dX2_stop_7 ?_
  obtain ⟨r1, hr1, hf⟩ := bi_some hf
  refine kz_n (n := 3) S hRf hRl hK hA hZ hP hD hS hl [.int a1, .int 0, .int ((σC.1 2) - 1)] [] (kP_outside l D cI cB cR cM cJ t [] a1 0 ((σC.1 2) - 1) r1 hr1) hZ.1.2.1 gX2_stop_X8_outside_n38 rfl oini osta (by decide +kernel) rfl ⟨by decide, by decide⟩ rfl (Nat.le_of_ble_eq_true rfl) dX2_stop_8 (fun H locs hP hD hS => ?_)
  replace hP : va_P D vwCl (xC uC cI cB cR cM cJ σC) H := hP
  replace hD : va_D A (xC uC cI cB cR cM cJ σC) := hD
  refine W.eq (g2 := F0 m 11 ls [.int r1]) rfl ?_
  refine lv_if_eq (tgt := 19) hx hb dX2_stop_11 (by decide) (fun c2 => ?_) (fun c2 => ?_)
  · have hf := (if_pos c2).symm.trans hf
    refine lv_aload_n hx hb dX2_stop_19 rfl (lv_at hl 0 rfl) ?_
    refine Cg_0 S hinX2 hK hP 0 rfl f11 dX2_stop_20 ?_
    refine lv_iload_n hx hb dX2_stop_23 rfl (lv_at hl 1 rfl) ?_
    obtain ⟨g3, hf⟩ := gd_some hf
    refine va_iald (f := σC.2 0) (n := 6) (cA := cI) hx hb hK hP 1 0 rfl rfl g3 dX2_stop_24 ?_
    exact hre _ _ _ _ _ hf hP hD hS dX2_stop_25
  · have hf := (if_neg c2).symm.trans hf
    refine lv_ldc (v := (-1000000)) hx hb hown c24 dX2_stop_14 ?_
    refine lv_goto (tgt := 25) hx hb dX2_stop_16 (by decide) ?_
    exact hre _ _ _ _ _ hf hP hD hS dX2_stop_25
def FK_nextOf (a0 : Int32) : Option Int32 :=
  Option.bind (FP_outside a0 0 5) fun (r1 : Int32) => if r1 = 0 then (gd (¬ ((a0 : Int32) < 0 ∨ 6 ≤ Int32.toNatClampNeg a0)) (some ((zNEXT (Int32.toNatClampNeg a0))))) else (some ((-1)))
set_option maxHeartbeats 4000000 in
set_option maxRecDepth 100000 in
theorem kK_nextOf (l : Launch) (D : va_G) (cI cB cR cM cJ : ClassId) (t : Nat → Nat) (w0 : va_W) (a0 : Int32) (r : Int32) (hf : FK_nextOf a0 = some (r)) : KZ l D (ctys cI cB cR cM cJ) t yX3_nextOf wsX3_nextOf 1 22 [.int a0] w0 (some (.int r)) w0 := by
  refine KZ.ofI (own := RX3) (cc := cX3_nextOf) (maxL := 1) (by decide) rfl rfl (Nat.le_of_ble_eq_true rfl) ?_
  intro p e s m args below meth c R Q A ls S hRf hRl hK hA hP hD hS hl hZ hret
  obtain ⟨hx, hb, hml, hown, hts⟩ := id S
  have oini := hts (.initialized RX8) (by decide +kernel)
  have osta := hts (.static yX8_outside) (by decide +kernel)
  have f15 := hts (.fieldLink RX3 15 "PenniesAway$Kinds" "NEXT" "[I") (by decide +kernel)
  have hl : lv_has ls 1 [(0, .int a0)] := hl
  have hre : ∀ (x : Int32) (pc : Nat) (ls : Array Slot) (H : Heap) (locs : List Loc), (some (x) : Option Int32) = some (r) → va_P D vwCl w0 H → va_D A w0 → va_S A s.heap H locs → decode cX3_nextOf pc = .ok (.ireturn, 1) → W p l e R s m args below meth c H locs 0 0 Q (F0 m pc ls [.int x]) := by intro x pc ls H locs he; cases he; exact hret pc ls H locs
  unfold FK_nextOf at hf
  refine lv_iload_n hx hb dX3_nextOf_0 rfl (lv_at hl 0 rfl) ?_
  refine lv_iconst (v := 0) hx hb dX3_nextOf_1 (by decide) ?_
  refine lv_iconst (v := 5) hx hb dX3_nextOf_2 (by decide) ?_
  obtain ⟨r1, hr1, hf⟩ := bi_some hf
  refine kz_n (n := 3) S hRf hRl hK hA hZ hP hD hS hl [.int a0, .int 0, .int 5] [] (kP_outside l D cI cB cR cM cJ t [] a0 0 5 r1 hr1) hZ.1.2.2.1 gX3_nextOf_X8_outside_n9 rfl oini osta (by decide +kernel) rfl ⟨by decide, by decide⟩ rfl (Nat.le_of_ble_eq_true rfl) dX3_nextOf_3 (fun H locs hP hD hS => ?_)
  replace hP : va_P D vwCl w0 H := hP
  replace hD : va_D A w0 := hD
  refine W.eq (g2 := F0 m 6 ls [.int r1]) rfl ?_
  refine lv_if_eq (tgt := 13) hx hb dX3_nextOf_6 (by decide) (fun c2 => ?_) (fun c2 => ?_)
  · have hf := (if_pos c2).symm.trans hf
    refine va_gets hx hb hZ.2.1.1 hS hown f15 (fun _ h9 => h9) dX3_nextOf_13 ?_
    refine lv_iload_n hx hb dX3_nextOf_16 rfl (lv_at hl 0 rfl) ?_
    obtain ⟨g3, hf⟩ := gd_some hf
    refine va_ti hx hb hZ.2.1.2.1 hS g3 rfl dX3_nextOf_17 ?_
    exact hre _ _ _ _ _ hf hP hD hS dX3_nextOf_18
  · have hf := (if_neg c2).symm.trans hf
    refine lv_iconst (v := (-1)) hx hb dX3_nextOf_9 (by decide) ?_
    refine lv_goto (tgt := 18) hx hb dX3_nextOf_10 (by decide) ?_
    exact hre _ _ _ _ _ hf hP hD hS dX3_nextOf_18
def FA_note (σA : MS) (a1 : Int32) : Option MS :=
  if 16 ≤ (σA.1 1) then (some (σA)) else (gd (¬ (((σA.1 1) : Int32) < 0 ∨ 16 ≤ Int32.toNatClampNeg (σA.1 1))) (nm (setA σA 0 (Int32.toNatClampNeg (σA.1 1)) a1) fun (σ3 : MS) => nm (setF σ3 1 ((σ3.1 1) + 1)) fun (σ4 : MS) => some (σ4)))
set_option maxHeartbeats 4000000 in
set_option maxRecDepth 100000 in
theorem kA_note (l : Launch) (D : va_G) (uA : Nat → Nat) (cI cB cR cM cJ : ClassId) (t : Nat → Nat) (σA : MS) (a1 : Int32) (σA' : MS) (hf : FA_note σA a1 = some (σA')) : KZ l D (ctys cI cB cR cM cJ) t yX1_note wsX1_note 0 0 [.ref (uA 0), .int a1] (xA uA cI cB cR cM cJ σA) none (xA uA cI cB cR cM cJ σA') := by
  refine KZ.ofV (own := RX1) (cc := cX1_note) (maxL := 2) (by decide) rfl rfl (Nat.le_of_ble_eq_true rfl) ?_
  intro p e s m args below meth c R Q A ls S hRf hRl hK hA hP hD hS hl hZ hret
  obtain ⟨hx, hb, hml, hown, hts⟩ := id S
  have f15 := hts (.fieldLink RX1 15 "PenniesAway$Asker" "begun" "I") (by decide +kernel)
  have hinX1 : ∀ w ∈ wsX10, w ∈ wsX1_note := fun w hw => List.mem_cons_of_mem _ (List.mem_append_right _ hw)
  have f11 := hts (.fieldLink RX1 11 "PenniesAway$Asker" "notes" "[I") (by decide +kernel)
  have hl : lv_has ls 2 [(0, .ref (uA 0)), (1, .int a1)] := hl
  have hre : ∀ (τA : MS) (pc : Nat) (ls : Array Slot) (H : Heap) (locs : List Loc), (some (τA) : Option MS) = some (σA') → va_P D vwCl (xA uA cI cB cR cM cJ τA) H → va_D A (xA uA cI cB cR cM cJ τA) → va_S A s.heap H locs → decode cX1_note pc = .ok (.return_, 1) → W p l e R s m args below meth c H locs 0 0 Q (F0 m pc ls []) := by intro τA pc ls H locs he; cases he; exact hret pc ls H locs
  unfold FA_note at hf
  refine lv_aload_n hx hb dX1_note_0 rfl (lv_at hl 0 rfl) ?_
  refine Ag_1 S hinX1 hK hP 0 rfl f15 dX1_note_1 ?_
  refine lv_bipush (v := 16) hx hb dX1_note_4 (by decide) ?_
  refine lv_icmp_ge (tgt := 29) hx hb dX1_note_6 (by decide) (fun c1 => ?_) (fun c1 => ?_)
  · have hf := (if_pos c1).symm.trans hf
    exact hre _ _ _ _ _ hf hP hD hS dX1_note_29
  · have hf := (if_neg c1).symm.trans hf
    refine lv_aload_n hx hb dX1_note_9 rfl (lv_at hl 0 rfl) ?_
    refine Ag_0 S hinX1 hK hP 0 rfl f11 dX1_note_10 ?_
    refine lv_aload_n hx hb dX1_note_13 rfl (lv_at hl 0 rfl) ?_
    refine Ag_1 S hinX1 hK hP 0 rfl f15 dX1_note_14 ?_
    refine lv_iload_n hx hb dX1_note_17 rfl (lv_at hl 1 rfl) ?_
    obtain ⟨g2, hf⟩ := gd_some hf
    refine va_iast (f := σA.2 0) (n := 16) (cA := cI) hx hb hK hP hD hS 1 0 rfl rfl g2 dX1_note_18 (fun H locs hP hD hS => ?_)
    obtain ⟨σ3, eσ3, hf⟩ := nm_some hf
    replace hP : va_P D vwCl (xA uA cI cB cR cM cJ σ3) H := by rw [eσ3]; exact hP
    replace hD : va_D A (xA uA cI cB cR cM cJ σ3) := by rw [eσ3]; exact hD
    refine lv_aload_n hx hb dX1_note_19 rfl (lv_at hl 0 rfl) ?_
    refine lv_dup hx hb dX1_note_20 rfl ?_
    refine Ag_1 S hinX1 hK hP 0 rfl f15 dX1_note_21 ?_
    refine lv_iconst (v := 1) hx hb dX1_note_24 (by decide) ?_
    refine lv_iadd hx hb dX1_note_25 ?_
    refine Ap_1 S hinX1 hK hP hD hS 0 rfl f15 dX1_note_26 (fun H locs hP hD hS => ?_)
    obtain ⟨σ4, eσ4, hf⟩ := nm_some hf
    replace hP : va_P D vwCl (xA uA cI cB cR cM cJ σ4) H := by rw [eσ4]; exact hP
    replace hD : va_D A (xA uA cI cB cR cM cJ σ4) := by rw [eσ4]; exact hD
    exact hre _ _ _ _ _ hf hP hD hS dX1_note_29
def FA_noted (σA : MS) (a1 : Int32) : Option Int32 :=
  Option.bind (FP_outside a1 0 ((σA.1 1) - 1)) fun (r1 : Int32) => if r1 = 0 then (gd (¬ ((a1 : Int32) < 0 ∨ 16 ≤ Int32.toNatClampNeg a1)) (some ((σA.2 0 (Int32.toNatClampNeg a1))))) else (some ((-1000000)))
set_option maxHeartbeats 4000000 in
set_option maxRecDepth 100000 in
theorem kA_noted (l : Launch) (D : va_G) (uA : Nat → Nat) (cI cB cR cM cJ : ClassId) (t : Nat → Nat) (σA : MS) (a1 : Int32) (r : Int32) (hf : FA_noted σA a1 = some (r)) : KZ l D (ctys cI cB cR cM cJ) t yX1_noted wsX1_noted 1 22 [.ref (uA 0), .int a1] (xA uA cI cB cR cM cJ σA) (some (.int r)) (xA uA cI cB cR cM cJ σA) := by
  refine KZ.ofI (own := RX1) (cc := cX1_noted) (maxL := 2) (by decide) rfl rfl (Nat.le_of_ble_eq_true rfl) ?_
  intro p e s m args below meth c R Q A ls S hRf hRl hK hA hP hD hS hl hZ hret
  obtain ⟨hx, hb, hml, hown, hts⟩ := id S
  have f15 := hts (.fieldLink RX1 15 "PenniesAway$Asker" "begun" "I") (by decide +kernel)
  have hinX1 : ∀ w ∈ wsX10, w ∈ wsX1_noted := fun w hw => List.mem_cons_of_mem _ (List.mem_append_right _ hw)
  have oini := hts (.initialized RX8) (by decide +kernel)
  have osta := hts (.static yX8_outside) (by decide +kernel)
  have f11 := hts (.fieldLink RX1 11 "PenniesAway$Asker" "notes" "[I") (by decide +kernel)
  have c54 := hts (.constant RX1 54 (-1000000)) (by decide +kernel)
  have hl : lv_has ls 2 [(0, .ref (uA 0)), (1, .int a1)] := hl
  have hre : ∀ (x : Int32) (pc : Nat) (ls : Array Slot) (H : Heap) (locs : List Loc), (some (x) : Option Int32) = some (r) → va_P D vwCl (xA uA cI cB cR cM cJ σA) H → va_D A (xA uA cI cB cR cM cJ σA) → va_S A s.heap H locs → decode cX1_noted pc = .ok (.ireturn, 1) → W p l e R s m args below meth c H locs 0 0 Q (F0 m pc ls [.int x]) := by intro x pc ls H locs he; cases he; exact hret pc ls H locs
  unfold FA_noted at hf
  refine lv_iload_n hx hb dX1_noted_0 rfl (lv_at hl 1 rfl) ?_
  refine lv_iconst (v := 0) hx hb dX1_noted_1 (by decide) ?_
  refine lv_aload_n hx hb dX1_noted_2 rfl (lv_at hl 0 rfl) ?_
  refine Ag_1 S hinX1 hK hP 0 rfl f15 dX1_noted_3 ?_
  refine lv_iconst (v := 1) hx hb dX1_noted_6 (by decide) ?_
  refine lv_isub hx hb dX1_noted_7 ?_
  obtain ⟨r1, hr1, hf⟩ := bi_some hf
  refine kz_n (n := 3) S hRf hRl hK hA hZ hP hD hS hl [.int a1, .int 0, .int ((σA.1 1) - 1)] [] (kP_outside l D cI cB cR cM cJ t [] a1 0 ((σA.1 1) - 1) r1 hr1) hZ.1.1 gX1_noted_X8_outside_n50 rfl oini osta (by decide +kernel) rfl ⟨by decide, by decide⟩ rfl (Nat.le_of_ble_eq_true rfl) dX1_noted_8 (fun H locs hP hD hS => ?_)
  replace hP : va_P D vwCl (xA uA cI cB cR cM cJ σA) H := hP
  replace hD : va_D A (xA uA cI cB cR cM cJ σA) := hD
  refine W.eq (g2 := F0 m 11 ls [.int r1]) rfl ?_
  refine lv_if_eq (tgt := 19) hx hb dX1_noted_11 (by decide) (fun c2 => ?_) (fun c2 => ?_)
  · have hf := (if_pos c2).symm.trans hf
    refine lv_aload_n hx hb dX1_noted_19 rfl (lv_at hl 0 rfl) ?_
    refine Ag_0 S hinX1 hK hP 0 rfl f11 dX1_noted_20 ?_
    refine lv_iload_n hx hb dX1_noted_23 rfl (lv_at hl 1 rfl) ?_
    obtain ⟨g3, hf⟩ := gd_some hf
    refine va_iald (f := σA.2 0) (n := 16) (cA := cI) hx hb hK hP 1 0 rfl rfl g3 dX1_noted_24 ?_
    exact hre _ _ _ _ _ hf hP hD hS dX1_noted_25
  · have hf := (if_neg c2).symm.trans hf
    refine lv_ldc (v := (-1000000)) hx hb hown c54 dX1_noted_14 ?_
    refine lv_goto (tgt := 25) hx hb dX1_noted_16 (by decide) ?_
    exact hre _ _ _ _ _ hf hP hD hS dX1_noted_25
def FK_isOne_4 : Nat → Int32 → Int32 → Int32 → Option Int32
  | 0, _, _, _ => none
  | n + 1, l1, l2, l3 => if 5 < l3 then (some (0)) else (if l2 = (-1) then (some (0)) else (if l2 = l1 then (some (1)) else (Option.bind (FK_nextOf l2) fun (r4 : Int32) => nm (l3 + 1) fun (x5 : Int32) => (FK_isOne_4 n) l1 r4 x5)))
def FK_isOne (a0 : Int32) (a1 : Int32) : Option Int32 :=
  FK_isOne_4 fuelN a1 a0 0
set_option maxHeartbeats 4000000 in
set_option maxRecDepth 100000 in
theorem kK_isOne (l : Launch) (D : va_G) (cI cB cR cM cJ : ClassId) (t : Nat → Nat) (w0 : va_W) (a0 : Int32) (a1 : Int32) (r : Int32) (hf : FK_isOne a0 a1 = some (r)) : KZ l D (ctys cI cB cR cM cJ) t yX3_isOne wsX3_isOne 2 42 [.int a0, .int a1] w0 (some (.int r)) w0 := by
  refine KZ.ofZ (own := RX3) (cc := cX3_isOne) (maxL := 4) (by decide) rfl rfl (Nat.le_of_ble_eq_true rfl) ?_
  intro p e s m args below meth c R Q A ls S hRf hRl hK hA hP hD hS hl hZ hret
  obtain ⟨hx, hb, hml, hown, hts⟩ := id S
  have hl : lv_has ls 4 [(0, .int a0), (1, .int a1)] := hl
  have hre : ∀ (x : Int32) (pc : Nat) (ls : Array Slot) (H : Heap) (locs : List Loc), (some (x) : Option Int32) = some (r) → va_P D vwCl w0 H → va_D A w0 → va_S A s.heap H locs → decode cX3_isOne pc = .ok (.ireturn, 1) → narrow .boolean (.int x) = .int x → W p l e R s m args below meth c H locs 0 0 Q (F0 m pc ls [.int x]) := by intro x pc ls H locs he; cases he; exact hret pc ls H locs
  have b4 : ∀ (n : Nat), ∀ (l1 : Int32) (l2 : Int32) (l3 : Int32) (ls : Array Slot) (H : Heap) (locs : List Loc), FK_isOne_4 n l1 l2 l3 = some (r) → lv_has ls 4 [(1, .int l1), (2, .int l2), (3, .int l3)] → va_P D vwCl w0 H → va_D A w0 → va_S A s.heap H locs → W p l e R s m args below meth c H locs 0 0 Q (F0 m 4 ls []) := by
    intro n
    induction n with
    | zero => intro l1 l2 l3 ls H locs hf; exact absurd hf (by simp [FK_isOne_4])
    | succ n ih =>
      intro l1 l2 l3 ls H locs hf hl hP hD hS
      rw [FK_isOne_4] at hf
      refine lv_iload_n hx hb dX3_isOne_4 rfl (lv_at hl 2 rfl) ?_
      refine lv_iconst (v := 5) hx hb dX3_isOne_5 (by decide) ?_
      refine lv_icmp_gt (tgt := 32) hx hb dX3_isOne_6 (by decide) (fun c1 => ?_) (fun c1 => ?_)
      · have hf := (if_pos c1).symm.trans hf
        refine lv_iconst (v := 0) hx hb dX3_isOne_32 (by decide) ?_
        exact hre _ _ _ _ _ hf hP hD hS dX3_isOne_33 rfl
      · have hf := (if_neg c1).symm.trans hf
        refine lv_iload_n hx hb dX3_isOne_9 rfl (lv_at hl 1 rfl) ?_
        refine lv_iconst (v := (-1)) hx hb dX3_isOne_10 (by decide) ?_
        refine lv_icmp_eq (tgt := 32) hx hb dX3_isOne_11 (by decide) (fun c2 => ?_) (fun c2 => ?_)
        · have hf := (if_pos c2).symm.trans hf
          refine lv_iconst (v := 0) hx hb dX3_isOne_32 (by decide) ?_
          exact hre _ _ _ _ _ hf hP hD hS dX3_isOne_33 rfl
        · have hf := (if_neg c2).symm.trans hf
          refine lv_iload_n hx hb dX3_isOne_14 rfl (lv_at hl 1 rfl) ?_
          refine lv_iload_n hx hb dX3_isOne_15 rfl (lv_at hl 0 rfl) ?_
          refine lv_icmp_ne (tgt := 21) hx hb dX3_isOne_16 (by decide) (fun c3 => ?_) (fun c3 => ?_)
          · have hf := (if_neg c3).symm.trans hf
            refine lv_iload_n hx hb dX3_isOne_21 rfl (lv_at hl 1 rfl) ?_
            obtain ⟨r4, hr4, hf⟩ := bi_some hf
            refine kz_s (n := 1) S hRf hRl hK hA hZ hP hD hS hl [] [.int l2] [] (kK_nextOf l D cI cB cR cM cJ t [] l2 r4 hr4) rfl rfl rfl gX3_isOne_X3_nextOf rfl (by decide +kernel) rfl ⟨by decide, by decide⟩ rfl (Nat.le_of_ble_eq_true rfl) dX3_isOne_22 (fun H locs hP hD hS => ?_)
            replace hP : va_P D vwCl w0 H := hP
            replace hD : va_D A w0 := hD
            refine W.eq (g2 := F0 m 25 ls [.int r4]) rfl ?_
            refine lv_istore_n (lv' := [(2, .int r4), (1, .int l1), (3, .int l3)]) hx hb dX3_isOne_25 rfl hl (by decide) rfl (fun ls hl => ?_)
            obtain ⟨x5, ex5, hf⟩ := nm_some hf
            refine lv_iinc (v := x5) (lv' := [(3, .int x5), (2, .int r4), (1, .int l1)]) hx hb dX3_isOne_26 hl (k := 2) rfl (by rw [ex5]; rfl) (by decide) rfl (fun ls hl => ?_)
            refine lv_goto (tgt := 4) hx hb dX3_isOne_29 (by decide) ?_
            exact ih _ _ _ _ _ _ hf (lv_sub hl [2, 1, 0] rfl) hP hD hS
          · have hf := (if_pos c3).symm.trans hf
            refine lv_iconst (v := 1) hx hb dX3_isOne_19 (by decide) ?_
            exact hre _ _ _ _ _ hf hP hD hS dX3_isOne_20 rfl
  unfold FK_isOne at hf
  refine lv_iload_n hx hb dX3_isOne_0 rfl (lv_at hl 0 rfl) ?_
  refine lv_istore_n (lv' := [(2, .int a0), (0, .int a0), (1, .int a1)]) hx hb dX3_isOne_1 rfl hl (by decide) rfl (fun ls hl => ?_)
  refine lv_iconst (v := 0) hx hb dX3_isOne_2 (by decide) ?_
  refine lv_istore_n (lv' := [(3, .int 0), (2, .int a0), (0, .int a0), (1, .int a1)]) hx hb dX3_isOne_3 rfl hl (by decide) rfl (fun ls hl => ?_)
  exact b4 fuelN _ _ _ _ _ _ hf (lv_sub hl [3, 1, 0] rfl) hP hD hS
