def FP_image (σL : MS) (ι : (Nat → MS)) (a1 : Int32) : Option (Int32 × (Nat → MS)) :=
  Option.bind (FP_outside a1 0 1) fun (r1 : Int32) => if r1 = 0 then (if (σL.1 4) = 0 then (some ((-1000002), ι)) else (gd (¬ ((a1 : Int32) < 0 ∨ 2 ≤ Int32.toNatClampNeg a1)) (gd ((Int32.toNatClampNeg a1) < 2) (Option.bind (FL_takeFrom (ι (Int32.toNatClampNeg a1)) σL) fun (τ7 : MS) => nm (va_up ι (Int32.toNatClampNeg a1) τ7) fun (ω8 : (Nat → MS)) => some (1, ω8))))) else (some ((-1000001), ι))
set_option maxHeartbeats 4000000 in
set_option maxRecDepth 100000 in
theorem kP_image (l : Launch) (D : va_G) (uP uL uG uR uT uC uA uK : Nat → Nat) (uW uI : Nat → Nat → Nat) (cI cB cR cM cJ : ClassId) (t : Nat → Nat) (σP σL σG σR σT σC σA σK : MS) (ω ι : Nat → MS) (a1 : Int32) (r : Int32) (ι' : (Nat → MS)) (hf : FP_image σL ι a1 = some (r, ι')) : KZ l D (ctys cI cB cR cM cJ) t yX8_image wsX8_image 2 81 [.ref (uP 0), .int a1] (pw uP uL uG uR uT uC uA uK uW uI cI cB cR cM cJ σP σL σG σR σT σC σA σK ω ι) (some (.int r)) (pw uP uL uG uR uT uC uA uK uW uI cI cB cR cM cJ σP σL σG σR σT σC σA σK ω ι') := by
  refine KZ.ofI (own := RX8) (cc := cX8_image) (maxL := 2) (by decide) rfl rfl (Nat.le_of_ble_eq_true rfl) ?_
  intro p e s m args below meth c R Q A ls S hRf hRl hK hA hP hD hS hl hZ hret
  obtain ⟨hx, hb, hml, hown, hts⟩ := id S
  have f57 := hts (.fieldLink RX8 57 "PenniesAway" "kingdom" "LPenniesAway$Realm;") (by decide +kernel)
  have hinX8 : ∀ w ∈ wsX80, w ∈ wsX8_image := fun w hw => List.mem_cons_of_mem _ (List.mem_append_left _ (List.mem_append_right _ hw))
  have f185 := hts (.fieldLink RX8 185 "PenniesAway$Realm" "told" "Z") (by decide +kernel)
  have hinX5 : ∀ w ∈ wsX50, w ∈ wsX8_image := fun w hw => List.mem_cons_of_mem _ (List.mem_append_right _ hw)
  have f17 := hts (.fieldLink RX8 17 "PenniesAway" "images" "[LPenniesAway$Realm;") (by decide +kernel)
  have c168 := hts (.constant RX8 168 (-1000002)) (by decide +kernel)
  have c80 := hts (.constant RX8 80 (-1000001)) (by decide +kernel)
  have hl : lv_has ls 2 [(0, .ref (uP 0)), (1, .int a1)] := hl
  have hre : ∀ (x : Int32) (τI : (Nat → MS)) (pc : Nat) (ls : Array Slot) (H : Heap) (locs : List Loc), (some (x, τI) : Option (Int32 × (Nat → MS))) = some (r, ι') → va_P D vwCl (pw uP uL uG uR uT uC uA uK uW uI cI cB cR cM cJ σP σL σG σR σT σC σA σK ω τI) H → va_D A (pw uP uL uG uR uT uC uA uK uW uI cI cB cR cM cJ σP σL σG σR σT σC σA σK ω τI) → va_S A s.heap H locs → decode cX8_image pc = .ok (.ireturn, 1) → W p l e R s m args below meth c H locs 0 0 Q (F0 m pc ls [.int x]) := by intro x τI pc ls H locs he; cases he; exact hret pc ls H locs
  unfold FP_image at hf
  refine lv_iload_n hx hb dX8_image_0 rfl (lv_at hl 1 rfl) ?_
  refine lv_iconst (v := 0) hx hb dX8_image_1 (by decide) ?_
  refine lv_iconst (v := 1) hx hb dX8_image_2 (by decide) ?_
  obtain ⟨r1, hr1, hf⟩ := bi_some hf
  refine kz_s (n := 3) S hRf hRl hK hA hZ hP hD hS hl [] [.int a1, .int 0, .int 1] [] (kP_outside l D cI cB cR cM cJ t [] a1 0 1 r1 hr1) rfl rfl rfl gX8_image_X8_outside rfl (by decide +kernel) rfl ⟨by decide, by decide⟩ rfl (Nat.le_of_ble_eq_true rfl) dX8_image_3 (fun H locs hP hD hS => ?_)
  replace hP : va_P D vwCl (pw uP uL uG uR uT uC uA uK uW uI cI cB cR cM cJ σP σL σG σR σT σC σA σK ω ι) H := hP
  replace hD : va_D A (pw uP uL uG uR uT uC uA uK uW uI cI cB cR cM cJ σP σL σG σR σT σC σA σK ω ι) := hD
  refine W.eq (g2 := F0 m 6 ls [.int r1]) rfl ?_
  refine lv_if_eq (tgt := 12) hx hb dX8_image_6 (by decide) (fun c2 => ?_) (fun c2 => ?_)
  · have hf := (if_pos c2).symm.trans hf
    refine lv_aload_n hx hb dX8_image_12 rfl (lv_at hl 0 rfl) ?_
    refine Pg_7 S hinX8 hK hP f57 dX8_image_13 ?_
    refine Lg_4 S hinX5 hK hP 3 rfl f185 dX8_image_16 ?_
    refine lv_if_ne (tgt := 25) hx hb dX8_image_19 (by decide) (fun c3 => ?_) (fun c3 => ?_)
    · have hf := (if_neg c3).symm.trans hf
      refine lv_aload_n hx hb dX8_image_25 rfl (lv_at hl 0 rfl) ?_
      refine Pg_1 S hinX8 hK hP f17 dX8_image_26 ?_
      refine lv_iload_n hx hb dX8_image_29 rfl (lv_at hl 1 rfl) ?_
      obtain ⟨g4, hf⟩ := gd_some hf
      refine va_aldq (f := kRefs 2 (fun i => uI i 0)) (n := 2) (cA := cM) (C := RX5) hx hb hK hP 2 3 rfl rfl g4 dX8_image_30 ?_
      refine W.eq (g2 := F0 m 31 ls [.ref (uI (Int32.toNatClampNeg a1) 0)]) (by rw [kRefs, if_pos (Nat.not_le.mp (fun q => g4 (Or.inr q)))]; rfl) ?_
      refine lv_aload_n hx hb dX8_image_31 rfl (lv_at hl 0 rfl) ?_
      refine Pg_7 S hinX8 hK hP f57 dX8_image_32 ?_
      obtain ⟨k6, hf⟩ := gd_some hf
      obtain ⟨τ7, hr5, hf⟩ := bi_some hf
      refine kz_v (ci := 4) (q0 := 0) (n := 1) S hRf hRl hK hA hZ hP hD hS hl [63 + 5 * (Int32.toNatClampNeg a1), 64 + 5 * (Int32.toNatClampNeg a1), 65 + 5 * (Int32.toNatClampNeg a1), 66 + 5 * (Int32.toNatClampNeg a1), 67 + 5 * (Int32.toNatClampNeg a1), 3, 4, 5, 6, 7] [.ref (uL 0)] [] (kL_takeFrom l D (uI (Int32.toNatClampNeg a1)) uL cI cB cR cM cJ t (ι (Int32.toNatClampNeg a1)) σL τ7 hr5) (pw_cIL (Int32.toNatClampNeg a1) k6) (pw_nIL (Int32.toNatClampNeg a1) k6) rfl gX8_image_X5_takeFrom rfl (by decide +kernel) rfl ⟨by decide, by decide⟩ rfl rfl rfl rfl (Nat.le_of_ble_eq_true rfl) dX8_image_35 (fun H locs hP hD hS => ?_)
      rw [pw_kIL (Int32.toNatClampNeg a1) k6] at hP hD
      obtain ⟨ω8, eω8, hf⟩ := nm_some hf
      rw [← eω8] at hP hD
      refine W.eq (g2 := F0 m 38 ls []) rfl ?_
      refine lv_iconst (v := 1) hx hb dX8_image_38 (by decide) ?_
      exact hre _ _ _ _ _ _ hf hP hD hS dX8_image_39
    · have hf := (if_pos c3).symm.trans hf
      refine lv_ldc (v := (-1000002)) hx hb hown c168 dX8_image_22 ?_
      exact hre _ _ _ _ _ _ hf hP hD hS dX8_image_24
  · have hf := (if_neg c2).symm.trans hf
    refine lv_ldc (v := (-1000001)) hx hb hown c80 dX8_image_9 ?_
    exact hre _ _ _ _ _ _ hf hP hD hS dX8_image_11
def FP_restore (σL : MS) (σK : MS) (ι : (Nat → MS)) (a1 : Int32) : Option (Int32 × MS × MS) :=
  Option.bind (FP_outside a1 0 1) fun (r1 : Int32) => if r1 = 0 then (gd (¬ ((a1 : Int32) < 0 ∨ 2 ≤ Int32.toNatClampNeg a1)) (gd ((Int32.toNatClampNeg a1) < 2) (if ((ι (Int32.toNatClampNeg a1)).1 4) = 0 then (some ((-1000002), σL, σK)) else (gd (¬ ((a1 : Int32) < 0 ∨ 2 ≤ Int32.toNatClampNeg a1)) (gd ((Int32.toNatClampNeg a1) < 2) (Option.bind (FL_takeFrom σL (ι (Int32.toNatClampNeg a1))) fun (τ9 : MS) => Option.bind (FK_forgetAll σK) fun (τ11 : MS) => some (1, τ9, τ11))))))) else (some ((-1000001), σL, σK))
set_option maxHeartbeats 4000000 in
set_option maxRecDepth 100000 in
theorem kP_restore (l : Launch) (D : va_G) (uP uL uG uR uT uC uA uK : Nat → Nat) (uW uI : Nat → Nat → Nat) (cI cB cR cM cJ : ClassId) (t : Nat → Nat) (σP σL σG σR σT σC σA σK : MS) (ω ι : Nat → MS) (a1 : Int32) (r : Int32) (σL' : MS) (σK' : MS) (hf : FP_restore σL σK ι a1 = some (r, σL', σK')) : KZ l D (ctys cI cB cR cM cJ) t yX8_restore wsX8_restore 2 81 [.ref (uP 0), .int a1] (pw uP uL uG uR uT uC uA uK uW uI cI cB cR cM cJ σP σL σG σR σT σC σA σK ω ι) (some (.int r)) (pw uP uL uG uR uT uC uA uK uW uI cI cB cR cM cJ σP σL' σG σR σT σC σA σK' ω ι) := by
  refine KZ.ofI (own := RX8) (cc := cX8_restore) (maxL := 2) (by decide) rfl rfl (Nat.le_of_ble_eq_true rfl) ?_
  intro p e s m args below meth c R Q A ls S hRf hRl hK hA hP hD hS hl hZ hret
  obtain ⟨hx, hb, hml, hown, hts⟩ := id S
  have f17 := hts (.fieldLink RX8 17 "PenniesAway" "images" "[LPenniesAway$Realm;") (by decide +kernel)
  have hinX8 : ∀ w ∈ wsX80, w ∈ wsX8_restore := fun w hw => List.mem_cons_of_mem _ (List.mem_append_left _ (List.mem_append_left _ (List.mem_append_right _ hw)))
  have f185 := hts (.fieldLink RX8 185 "PenniesAway$Realm" "told" "Z") (by decide +kernel)
  have hinX5 : ∀ w ∈ wsX50, w ∈ wsX8_restore := fun w hw => List.mem_cons_of_mem _ (List.mem_append_left _ (List.mem_append_right _ hw))
  have f57 := hts (.fieldLink RX8 57 "PenniesAway" "kingdom" "LPenniesAway$Realm;") (by decide +kernel)
  have f38 := hts (.fieldLink RX8 38 "PenniesAway" "acts" "LPenniesAway$Acts;") (by decide +kernel)
  have c168 := hts (.constant RX8 168 (-1000002)) (by decide +kernel)
  have c80 := hts (.constant RX8 80 (-1000001)) (by decide +kernel)
  have hl : lv_has ls 2 [(0, .ref (uP 0)), (1, .int a1)] := hl
  have hre : ∀ (x : Int32) (τL : MS) (τK : MS) (pc : Nat) (ls : Array Slot) (H : Heap) (locs : List Loc), (some (x, τL, τK) : Option (Int32 × MS × MS)) = some (r, σL', σK') → va_P D vwCl (pw uP uL uG uR uT uC uA uK uW uI cI cB cR cM cJ σP τL σG σR σT σC σA τK ω ι) H → va_D A (pw uP uL uG uR uT uC uA uK uW uI cI cB cR cM cJ σP τL σG σR σT σC σA τK ω ι) → va_S A s.heap H locs → decode cX8_restore pc = .ok (.ireturn, 1) → W p l e R s m args below meth c H locs 0 0 Q (F0 m pc ls [.int x]) := by intro x τL τK pc ls H locs he; cases he; exact hret pc ls H locs
  unfold FP_restore at hf
  refine lv_iload_n hx hb dX8_restore_0 rfl (lv_at hl 1 rfl) ?_
  refine lv_iconst (v := 0) hx hb dX8_restore_1 (by decide) ?_
  refine lv_iconst (v := 1) hx hb dX8_restore_2 (by decide) ?_
  obtain ⟨r1, hr1, hf⟩ := bi_some hf
  refine kz_s (n := 3) S hRf hRl hK hA hZ hP hD hS hl [] [.int a1, .int 0, .int 1] [] (kP_outside l D cI cB cR cM cJ t [] a1 0 1 r1 hr1) rfl rfl rfl gX8_restore_X8_outside rfl (by decide +kernel) rfl ⟨by decide, by decide⟩ rfl (Nat.le_of_ble_eq_true rfl) dX8_restore_3 (fun H locs hP hD hS => ?_)
  replace hP : va_P D vwCl (pw uP uL uG uR uT uC uA uK uW uI cI cB cR cM cJ σP σL σG σR σT σC σA σK ω ι) H := hP
  replace hD : va_D A (pw uP uL uG uR uT uC uA uK uW uI cI cB cR cM cJ σP σL σG σR σT σC σA σK ω ι) := hD
  refine W.eq (g2 := F0 m 6 ls [.int r1]) rfl ?_
  refine lv_if_eq (tgt := 12) hx hb dX8_restore_6 (by decide) (fun c2 => ?_) (fun c2 => ?_)
  · have hf := (if_pos c2).symm.trans hf
    refine lv_aload_n hx hb dX8_restore_12 rfl (lv_at hl 0 rfl) ?_
    refine Pg_1 S hinX8 hK hP f17 dX8_restore_13 ?_
    refine lv_iload_n hx hb dX8_restore_16 rfl (lv_at hl 1 rfl) ?_
    obtain ⟨g3, hf⟩ := gd_some hf
    refine va_aldq (f := kRefs 2 (fun i => uI i 0)) (n := 2) (cA := cM) (C := RX5) hx hb hK hP 2 3 rfl rfl g3 dX8_restore_17 ?_
    refine W.eq (g2 := F0 m 18 ls [.ref (uI (Int32.toNatClampNeg a1) 0)]) (by rw [kRefs, if_pos (Nat.not_le.mp (fun q => g3 (Or.inr q)))]; rfl) ?_
    obtain ⟨k4, hf⟩ := gd_some hf
    refine Lg_4 S hinX5 hK hP (63 + 5 * (Int32.toNatClampNeg a1)) (pw_imAt (Int32.toNatClampNeg a1) k4) f185 dX8_restore_18 ?_
    refine lv_if_ne (tgt := 27) hx hb dX8_restore_21 (by decide) (fun c5 => ?_) (fun c5 => ?_)
    · have hf := (if_neg c5).symm.trans hf
      refine lv_aload_n hx hb dX8_restore_27 rfl (lv_at hl 0 rfl) ?_
      refine Pg_7 S hinX8 hK hP f57 dX8_restore_28 ?_
      refine lv_aload_n hx hb dX8_restore_31 rfl (lv_at hl 0 rfl) ?_
      refine Pg_1 S hinX8 hK hP f17 dX8_restore_32 ?_
      refine lv_iload_n hx hb dX8_restore_35 rfl (lv_at hl 1 rfl) ?_
      obtain ⟨g6, hf⟩ := gd_some hf
      refine va_aldq (f := kRefs 2 (fun i => uI i 0)) (n := 2) (cA := cM) (C := RX5) hx hb hK hP 2 3 rfl rfl g6 dX8_restore_36 ?_
      refine W.eq (g2 := F0 m 37 ls [.ref (uI (Int32.toNatClampNeg a1) 0), .ref (uL 0)]) (by rw [kRefs, if_pos (Nat.not_le.mp (fun q => g6 (Or.inr q)))]; rfl) ?_
      obtain ⟨k8, hf⟩ := gd_some hf
      obtain ⟨τ9, hr7, hf⟩ := bi_some hf
      refine kz_v (ci := 4) (q0 := 0) (n := 1) S hRf hRl hK hA hZ hP hD hS hl [3, 4, 5, 6, 7, 63 + 5 * (Int32.toNatClampNeg a1), 64 + 5 * (Int32.toNatClampNeg a1), 65 + 5 * (Int32.toNatClampNeg a1), 66 + 5 * (Int32.toNatClampNeg a1), 67 + 5 * (Int32.toNatClampNeg a1)] [.ref (uI (Int32.toNatClampNeg a1) 0)] [] (kL_takeFrom l D uL (uI (Int32.toNatClampNeg a1)) cI cB cR cM cJ t σL (ι (Int32.toNatClampNeg a1)) τ9 hr7) (pw_cLI (Int32.toNatClampNeg a1) k8) (pw_nLI (Int32.toNatClampNeg a1) k8) rfl gX8_restore_X5_takeFrom rfl (by decide +kernel) rfl ⟨by decide, by decide⟩ rfl rfl rfl rfl (Nat.le_of_ble_eq_true rfl) dX8_restore_37 (fun H locs hP hD hS => ?_)
      rw [pw_kLI (Int32.toNatClampNeg a1) k8, va_up_id] at hP hD
      refine W.eq (g2 := F0 m 40 ls []) rfl ?_
      refine lv_aload_n hx hb dX8_restore_40 rfl (lv_at hl 0 rfl) ?_
      refine Pg_4 S hinX8 hK hP f38 dX8_restore_41 ?_
      obtain ⟨τ11, hr10, hf⟩ := bi_some hf
      refine kz_v (ci := 0) (q0 := 0) (n := 0) S hRf hRl hK hA hZ hP hD hS hl [21, 22, 23, 24, 25, 26, 27, 28, 29, 30, 31, 32, 33, 34, 35, 36, 37, 38, 39, 40, 41, 42, 43, 44, 45, 46] [] [] (kK_forgetAll l D uK cI cB cR cM cJ t σK τ11 hr10) pw_cK rfl rfl gX8_restore_X0_forgetAll rfl (by decide +kernel) rfl ⟨by decide, by decide⟩ rfl rfl rfl rfl (Nat.le_of_ble_eq_true rfl) dX8_restore_44 (fun H locs hP hD hS => ?_)
      rw [pw_kK] at hP hD
      refine W.eq (g2 := F0 m 47 ls []) rfl ?_
      refine lv_iconst (v := 1) hx hb dX8_restore_47 (by decide) ?_
      exact hre _ _ _ _ _ _ _ hf hP hD hS dX8_restore_48
    · have hf := (if_pos c5).symm.trans hf
      refine lv_ldc (v := (-1000002)) hx hb hown c168 dX8_restore_24 ?_
      exact hre _ _ _ _ _ _ _ hf hP hD hS dX8_restore_26
  · have hf := (if_neg c2).symm.trans hf
    refine lv_ldc (v := (-1000001)) hx hb hown c80 dX8_restore_9 ?_
    exact hre _ _ _ _ _ _ _ hf hP hD hS dX8_restore_11
def FP_kind (σL : MS) (a1 : Int32) : Option Int32 :=
  Option.bind (FP_noCoin σL a1) fun (r1 : Int32) => if r1 = 0 then (gd (¬ ((a1 : Int32) < 0 ∨ 12 ≤ Int32.toNatClampNeg a1)) (some ((σL.2 2 (Int32.toNatClampNeg a1))))) else (some ((-1000001)))
set_option maxHeartbeats 4000000 in
set_option maxRecDepth 100000 in
theorem kP_kind (l : Launch) (D : va_G) (uP uL uG uR uT uC uA uK : Nat → Nat) (uW uI : Nat → Nat → Nat) (cI cB cR cM cJ : ClassId) (t : Nat → Nat) (σP σL σG σR σT σC σA σK : MS) (ω ι : Nat → MS) (a1 : Int32) (r : Int32) (hf : FP_kind σL a1 = some (r)) : KZ l D (ctys cI cB cR cM cJ) t yX8_kind wsX8_kind 2 43 [.ref (uP 0), .int a1] (pw uP uL uG uR uT uC uA uK uW uI cI cB cR cM cJ σP σL σG σR σT σC σA σK ω ι) (some (.int r)) (pw uP uL uG uR uT uC uA uK uW uI cI cB cR cM cJ σP σL σG σR σT σC σA σK ω ι) := by
  refine KZ.ofI (own := RX8) (cc := cX8_kind) (maxL := 2) (by decide) rfl rfl (Nat.le_of_ble_eq_true rfl) ?_
  intro p e s m args below meth c R Q A ls S hRf hRl hK hA hP hD hS hl hZ hret
  obtain ⟨hx, hb, hml, hown, hts⟩ := id S
  have f57 := hts (.fieldLink RX8 57 "PenniesAway" "kingdom" "LPenniesAway$Realm;") (by decide +kernel)
  have hinX8 : ∀ w ∈ wsX80, w ∈ wsX8_kind := fun w hw => List.mem_cons_of_mem _ (List.mem_append_left _ (List.mem_append_right _ hw))
  have f257 := hts (.fieldLink RX8 257 "PenniesAway$Realm" "kinds" "[I") (by decide +kernel)
  have hinX5 : ∀ w ∈ wsX50, w ∈ wsX8_kind := fun w hw => List.mem_cons_of_mem _ (List.mem_append_right _ hw)
  have c80 := hts (.constant RX8 80 (-1000001)) (by decide +kernel)
  have hl : lv_has ls 2 [(0, .ref (uP 0)), (1, .int a1)] := hl
  have hre : ∀ (x : Int32) (pc : Nat) (ls : Array Slot) (H : Heap) (locs : List Loc), (some (x) : Option Int32) = some (r) → va_P D vwCl (pw uP uL uG uR uT uC uA uK uW uI cI cB cR cM cJ σP σL σG σR σT σC σA σK ω ι) H → va_D A (pw uP uL uG uR uT uC uA uK uW uI cI cB cR cM cJ σP σL σG σR σT σC σA σK ω ι) → va_S A s.heap H locs → decode cX8_kind pc = .ok (.ireturn, 1) → W p l e R s m args below meth c H locs 0 0 Q (F0 m pc ls [.int x]) := by intro x pc ls H locs he; cases he; exact hret pc ls H locs
  unfold FP_kind at hf
  refine lv_aload_n hx hb dX8_kind_0 rfl (lv_at hl 0 rfl) ?_
  refine lv_iload_n hx hb dX8_kind_1 rfl (lv_at hl 1 rfl) ?_
  obtain ⟨r1, hr1, hf⟩ := bi_some hf
  refine kz_w (ci := 7) (q0 := 0) (n := 1) S hRf hRl hK hA hZ hP hD hS hl [.int a1] [] (kP_noCoin l D uP uL uG uR uT uC uA uK uW uI cI cB cR cM cJ t σP σL σG σR σT σC σA σK ω ι a1 r1 hr1) gX8_kind_X8_noCoin rfl (by decide +kernel) rfl ⟨by decide, by decide⟩ rfl rfl rfl rfl (Nat.le_of_ble_eq_true rfl) dX8_kind_2 (fun H locs hP hD hS => ?_)
  refine W.eq (g2 := F0 m 5 ls [.int r1]) rfl ?_
  refine lv_if_eq (tgt := 11) hx hb dX8_kind_5 (by decide) (fun c2 => ?_) (fun c2 => ?_)
  · have hf := (if_pos c2).symm.trans hf
    refine lv_aload_n hx hb dX8_kind_11 rfl (lv_at hl 0 rfl) ?_
    refine Pg_7 S hinX8 hK hP f57 dX8_kind_12 ?_
    refine Lg_2 S hinX5 hK hP 3 rfl f257 dX8_kind_15 ?_
    refine lv_iload_n hx hb dX8_kind_18 rfl (lv_at hl 1 rfl) ?_
    obtain ⟨g3, hf⟩ := gd_some hf
    refine va_iald (f := σL.2 2) (n := 12) (cA := cI) hx hb hK hP 6 0 rfl rfl g3 dX8_kind_19 ?_
    exact hre _ _ _ _ _ hf hP hD hS dX8_kind_20
  · have hf := (if_neg c2).symm.trans hf
    refine lv_ldc (v := (-1000001)) hx hb hown c80 dX8_kind_8 ?_
    exact hre _ _ _ _ _ hf hP hD hS dX8_kind_10
def FP_as (σP : MS) (σL : MS) (a1 : Int32) (a2 : Int32) : Option (Int32 × MS) :=
  Option.bind (FP_noCoin σL a1) fun (r1 : Int32) => if r1 = 0 then (Option.bind (FP_outside a2 0 5) fun (r3 : Int32) => if r3 = 0 then (gd (¬ ((a1 : Int32) < 0 ∨ 12 ≤ Int32.toNatClampNeg a1)) (Option.bind (FK_isOne (σL.2 2 (Int32.toNatClampNeg a1)) a2) fun (r6 : Int32) => if r6 = 0 then (bd2 (FP_found σP 3) fun (r10 : Int32) (σ11 : MS) => some (r10, σ11)) else (bd2 (FP_answered σP a1) fun (r8 : Int32) (σ9 : MS) => some (r8, σ9)))) else (some ((-1000001), σP))) else (some ((-1000001), σP))
set_option maxHeartbeats 4000000 in
set_option maxRecDepth 100000 in
theorem kP_as (l : Launch) (D : va_G) (uP uL uG uR uT uC uA uK : Nat → Nat) (uW uI : Nat → Nat → Nat) (cI cB cR cM cJ : ClassId) (t : Nat → Nat) (σP σL σG σR σT σC σA σK : MS) (ω ι : Nat → MS) (a1 : Int32) (a2 : Int32) (r : Int32) (σP' : MS) (hf : FP_as σP σL a1 a2 = some (r, σP')) : KZ l D (ctys cI cB cR cM cJ) t yX8_as wsX8_as 3 65 [.ref (uP 0), .int a1, .int a2] (pw uP uL uG uR uT uC uA uK uW uI cI cB cR cM cJ σP σL σG σR σT σC σA σK ω ι) (some (.int r)) (pw uP uL uG uR uT uC uA uK uW uI cI cB cR cM cJ σP' σL σG σR σT σC σA σK ω ι) := by
  refine KZ.ofI (own := RX8) (cc := cX8_as) (maxL := 3) (by decide) rfl rfl (Nat.le_of_ble_eq_true rfl) ?_
  intro p e s m args below meth c R Q A ls S hRf hRl hK hA hP hD hS hl hZ hret
  obtain ⟨hx, hb, hml, hown, hts⟩ := id S
  have c80 := hts (.constant RX8 80 (-1000001)) (by decide +kernel)
  have f57 := hts (.fieldLink RX8 57 "PenniesAway" "kingdom" "LPenniesAway$Realm;") (by decide +kernel)
  have hinX8 : ∀ w ∈ wsX80, w ∈ wsX8_as := fun w hw => List.mem_cons_of_mem _ (List.mem_append_left _ (List.mem_append_right _ hw))
  have f257 := hts (.fieldLink RX8 257 "PenniesAway$Realm" "kinds" "[I") (by decide +kernel)
  have hinX5 : ∀ w ∈ wsX50, w ∈ wsX8_as := fun w hw => List.mem_cons_of_mem _ (List.mem_append_right _ hw)
  have hl : lv_has ls 3 [(0, .ref (uP 0)), (1, .int a1), (2, .int a2)] := hl
  have hre : ∀ (x : Int32) (τP : MS) (pc : Nat) (ls : Array Slot) (H : Heap) (locs : List Loc), (some (x, τP) : Option (Int32 × MS)) = some (r, σP') → va_P D vwCl (pw uP uL uG uR uT uC uA uK uW uI cI cB cR cM cJ τP σL σG σR σT σC σA σK ω ι) H → va_D A (pw uP uL uG uR uT uC uA uK uW uI cI cB cR cM cJ τP σL σG σR σT σC σA σK ω ι) → va_S A s.heap H locs → decode cX8_as pc = .ok (.ireturn, 1) → W p l e R s m args below meth c H locs 0 0 Q (F0 m pc ls [.int x]) := by intro x τP pc ls H locs he; cases he; exact hret pc ls H locs
  unfold FP_as at hf
  refine lv_aload_n hx hb dX8_as_0 rfl (lv_at hl 0 rfl) ?_
  refine lv_iload_n hx hb dX8_as_1 rfl (lv_at hl 1 rfl) ?_
  obtain ⟨r1, hr1, hf⟩ := bi_some hf
  refine kz_w (ci := 7) (q0 := 0) (n := 1) S hRf hRl hK hA hZ hP hD hS hl [.int a1] [] (kP_noCoin l D uP uL uG uR uT uC uA uK uW uI cI cB cR cM cJ t σP σL σG σR σT σC σA σK ω ι a1 r1 hr1) gX8_as_X8_noCoin rfl (by decide +kernel) rfl ⟨by decide, by decide⟩ rfl rfl rfl rfl (Nat.le_of_ble_eq_true rfl) dX8_as_2 (fun H locs hP hD hS => ?_)
  refine W.eq (g2 := F0 m 5 ls [.int r1]) rfl ?_
  refine lv_if_ne (tgt := 17) hx hb dX8_as_5 (by decide) (fun c2 => ?_) (fun c2 => ?_)
  · have hf := (if_neg c2).symm.trans hf
    refine lv_ldc (v := (-1000001)) hx hb hown c80 dX8_as_17 ?_
    exact hre _ _ _ _ _ _ hf hP hD hS dX8_as_19
  · have hf := (if_pos c2).symm.trans hf
    refine lv_iload_n hx hb dX8_as_8 rfl (lv_at hl 2 rfl) ?_
    refine lv_iconst (v := 0) hx hb dX8_as_9 (by decide) ?_
    refine lv_iconst (v := 5) hx hb dX8_as_10 (by decide) ?_
    obtain ⟨r3, hr3, hf⟩ := bi_some hf
    refine kz_s (n := 3) S hRf hRl hK hA hZ hP hD hS hl [] [.int a2, .int 0, .int 5] [] (kP_outside l D cI cB cR cM cJ t [] a2 0 5 r3 hr3) rfl rfl rfl gX8_as_X8_outside rfl (by decide +kernel) rfl ⟨by decide, by decide⟩ rfl (Nat.le_of_ble_eq_true rfl) dX8_as_11 (fun H locs hP hD hS => ?_)
    replace hP : va_P D vwCl (pw uP uL uG uR uT uC uA uK uW uI cI cB cR cM cJ σP σL σG σR σT σC σA σK ω ι) H := hP
    replace hD : va_D A (pw uP uL uG uR uT uC uA uK uW uI cI cB cR cM cJ σP σL σG σR σT σC σA σK ω ι) := hD
    refine W.eq (g2 := F0 m 14 ls [.int r3]) rfl ?_
    refine lv_if_eq (tgt := 20) hx hb dX8_as_14 (by decide) (fun c4 => ?_) (fun c4 => ?_)
    · have hf := (if_pos c4).symm.trans hf
      refine lv_aload_n hx hb dX8_as_20 rfl (lv_at hl 0 rfl) ?_
      refine Pg_7 S hinX8 hK hP f57 dX8_as_21 ?_
      refine Lg_2 S hinX5 hK hP 3 rfl f257 dX8_as_24 ?_
      refine lv_iload_n hx hb dX8_as_27 rfl (lv_at hl 1 rfl) ?_
      obtain ⟨g5, hf⟩ := gd_some hf
      refine va_iald (f := σL.2 2) (n := 12) (cA := cI) hx hb hK hP 6 0 rfl rfl g5 dX8_as_28 ?_
      refine lv_iload_n hx hb dX8_as_29 rfl (lv_at hl 2 rfl) ?_
      obtain ⟨r6, hr6, hf⟩ := bi_some hf
      refine kz_s (n := 2) S hRf hRl hK hA hZ hP hD hS hl [] [.int (σL.2 2 (Int32.toNatClampNeg a1)), .int a2] [] (kK_isOne l D cI cB cR cM cJ t [] (σL.2 2 (Int32.toNatClampNeg a1)) a2 r6 hr6) rfl rfl rfl gX8_as_X3_isOne rfl (by decide +kernel) rfl ⟨by decide, by decide⟩ rfl (Nat.le_of_ble_eq_true rfl) dX8_as_30 (fun H locs hP hD hS => ?_)
      replace hP : va_P D vwCl (pw uP uL uG uR uT uC uA uK uW uI cI cB cR cM cJ σP σL σG σR σT σC σA σK ω ι) H := hP
      replace hD : va_D A (pw uP uL uG uR uT uC uA uK uW uI cI cB cR cM cJ σP σL σG σR σT σC σA σK ω ι) := hD
      refine W.eq (g2 := F0 m 33 ls [.int r6]) rfl ?_
      refine lv_if_ne (tgt := 42) hx hb dX8_as_33 (by decide) (fun c7 => ?_) (fun c7 => ?_)
      · have hf := (if_neg c7).symm.trans hf
        refine lv_aload_n hx hb dX8_as_42 rfl (lv_at hl 0 rfl) ?_
        refine lv_iload_n hx hb dX8_as_43 rfl (lv_at hl 1 rfl) ?_
        obtain ⟨r8, σ9, hr8, hf⟩ := bd2_some hf
        refine kz_w (ci := 7) (q0 := 0) (n := 1) S hRf hRl hK hA hZ hP hD hS hl [.int a1] [] (kP_answered l D uP uL uG uR uT uC uA uK uW uI cI cB cR cM cJ t σP σL σG σR σT σC σA σK ω ι a1 r8 σ9 hr8) gX8_as_X8_answered rfl (by decide +kernel) rfl ⟨by decide, by decide⟩ rfl rfl rfl rfl (Nat.le_of_ble_eq_true rfl) dX8_as_44 (fun H locs hP hD hS => ?_)
        refine W.eq (g2 := F0 m 47 ls [.int r8]) rfl ?_
        exact hre _ _ _ _ _ _ hf hP hD hS dX8_as_47
      · have hf := (if_pos c7).symm.trans hf
        refine lv_aload_n hx hb dX8_as_36 rfl (lv_at hl 0 rfl) ?_
        refine lv_iconst (v := 3) hx hb dX8_as_37 (by decide) ?_
        obtain ⟨r10, σ11, hr10, hf⟩ := bd2_some hf
        refine kz_w (ci := 7) (q0 := 0) (n := 1) S hRf hRl hK hA hZ hP hD hS hl [.int 3] [] (kP_found l D uP uL uG uR uT uC uA uK uW uI cI cB cR cM cJ t σP σL σG σR σT σC σA σK ω ι 3 r10 σ11 hr10) gX8_as_X8_found rfl (by decide +kernel) rfl ⟨by decide, by decide⟩ rfl rfl rfl rfl (Nat.le_of_ble_eq_true rfl) dX8_as_38 (fun H locs hP hD hS => ?_)
        refine W.eq (g2 := F0 m 41 ls [.int r10]) rfl ?_
        exact hre _ _ _ _ _ _ hf hP hD hS dX8_as_41
    · have hf := (if_neg c4).symm.trans hf
      refine lv_ldc (v := (-1000001)) hx hb hown c80 dX8_as_17 ?_
      exact hre _ _ _ _ _ _ hf hP hD hS dX8_as_19
def FP_ask (σL : MS) (σA : MS) (a1 : Int32) (a2 : Int32) : Option (Int32 × MS) :=
  Option.bind (FP_noCoin σL a1) fun (r1 : Int32) => if r1 = 0 then (Option.bind (FP_outside a2 0 1) fun (r3 : Int32) => if r3 = 0 then (bd2 (FA_answer σA σL a1 a2) fun (r5 : Int32) (τ6 : MS) => some (r5, τ6)) else (some ((-1000001), σA))) else (some ((-1000001), σA))
set_option maxHeartbeats 4000000 in
set_option maxRecDepth 100000 in
theorem kP_ask (l : Launch) (D : va_G) (uP uL uG uR uT uC uA uK : Nat → Nat) (uW uI : Nat → Nat → Nat) (cI cB cR cM cJ : ClassId) (t : Nat → Nat) (σP σL σG σR σT σC σA σK : MS) (ω ι : Nat → MS) (a1 : Int32) (a2 : Int32) (r : Int32) (σA' : MS) (hf : FP_ask σL σA a1 a2 = some (r, σA')) : KZ l D (ctys cI cB cR cM cJ) t yX8_ask wsX8_ask 18 1372 [.ref (uP 0), .int a1, .int a2] (pw uP uL uG uR uT uC uA uK uW uI cI cB cR cM cJ σP σL σG σR σT σC σA σK ω ι) (some (.int r)) (pw uP uL uG uR uT uC uA uK uW uI cI cB cR cM cJ σP σL σG σR σT σC σA' σK ω ι) := by
  refine KZ.ofI (own := RX8) (cc := cX8_ask) (maxL := 3) (by decide) rfl rfl (Nat.le_of_ble_eq_true rfl) ?_
  intro p e s m args below meth c R Q A ls S hRf hRl hK hA hP hD hS hl hZ hret
  obtain ⟨hx, hb, hml, hown, hts⟩ := id S
  have c80 := hts (.constant RX8 80 (-1000001)) (by decide +kernel)
  have f52 := hts (.fieldLink RX8 52 "PenniesAway" "asker" "LPenniesAway$Asker;") (by decide +kernel)
  have hinX8 : ∀ w ∈ wsX80, w ∈ wsX8_ask := fun w hw => List.mem_cons_of_mem _ (List.mem_append_left _ (List.mem_append_left _ (List.mem_append_right _ hw)))
  have f57 := hts (.fieldLink RX8 57 "PenniesAway" "kingdom" "LPenniesAway$Realm;") (by decide +kernel)
  have hl : lv_has ls 3 [(0, .ref (uP 0)), (1, .int a1), (2, .int a2)] := hl
  have hre : ∀ (x : Int32) (τA : MS) (pc : Nat) (ls : Array Slot) (H : Heap) (locs : List Loc), (some (x, τA) : Option (Int32 × MS)) = some (r, σA') → va_P D vwCl (pw uP uL uG uR uT uC uA uK uW uI cI cB cR cM cJ σP σL σG σR σT σC τA σK ω ι) H → va_D A (pw uP uL uG uR uT uC uA uK uW uI cI cB cR cM cJ σP σL σG σR σT σC τA σK ω ι) → va_S A s.heap H locs → decode cX8_ask pc = .ok (.ireturn, 1) → W p l e R s m args below meth c H locs 0 0 Q (F0 m pc ls [.int x]) := by intro x τA pc ls H locs he; cases he; exact hret pc ls H locs
  unfold FP_ask at hf
  refine lv_aload_n hx hb dX8_ask_0 rfl (lv_at hl 0 rfl) ?_
  refine lv_iload_n hx hb dX8_ask_1 rfl (lv_at hl 1 rfl) ?_
  obtain ⟨r1, hr1, hf⟩ := bi_some hf
  refine kz_w (ci := 7) (q0 := 0) (n := 1) S hRf hRl hK hA hZ hP hD hS hl [.int a1] [] (kP_noCoin l D uP uL uG uR uT uC uA uK uW uI cI cB cR cM cJ t σP σL σG σR σT σC σA σK ω ι a1 r1 hr1) gX8_ask_X8_noCoin rfl (by decide +kernel) rfl ⟨by decide, by decide⟩ rfl rfl rfl rfl (Nat.le_of_ble_eq_true rfl) dX8_ask_2 (fun H locs hP hD hS => ?_)
  refine W.eq (g2 := F0 m 5 ls [.int r1]) rfl ?_
  refine lv_if_ne (tgt := 17) hx hb dX8_ask_5 (by decide) (fun c2 => ?_) (fun c2 => ?_)
  · have hf := (if_neg c2).symm.trans hf
    refine lv_ldc (v := (-1000001)) hx hb hown c80 dX8_ask_17 ?_
    exact hre _ _ _ _ _ _ hf hP hD hS dX8_ask_19
  · have hf := (if_pos c2).symm.trans hf
    refine lv_iload_n hx hb dX8_ask_8 rfl (lv_at hl 2 rfl) ?_
    refine lv_iconst (v := 0) hx hb dX8_ask_9 (by decide) ?_
    refine lv_iconst (v := 1) hx hb dX8_ask_10 (by decide) ?_
    obtain ⟨r3, hr3, hf⟩ := bi_some hf
    refine kz_s (n := 3) S hRf hRl hK hA hZ hP hD hS hl [] [.int a2, .int 0, .int 1] [] (kP_outside l D cI cB cR cM cJ t [] a2 0 1 r3 hr3) rfl rfl rfl gX8_ask_X8_outside rfl (by decide +kernel) rfl ⟨by decide, by decide⟩ rfl (Nat.le_of_ble_eq_true rfl) dX8_ask_11 (fun H locs hP hD hS => ?_)
    replace hP : va_P D vwCl (pw uP uL uG uR uT uC uA uK uW uI cI cB cR cM cJ σP σL σG σR σT σC σA σK ω ι) H := hP
    replace hD : va_D A (pw uP uL uG uR uT uC uA uK uW uI cI cB cR cM cJ σP σL σG σR σT σC σA σK ω ι) := hD
    refine W.eq (g2 := F0 m 14 ls [.int r3]) rfl ?_
    refine lv_if_eq (tgt := 20) hx hb dX8_ask_14 (by decide) (fun c4 => ?_) (fun c4 => ?_)
    · have hf := (if_pos c4).symm.trans hf
      refine lv_aload_n hx hb dX8_ask_20 rfl (lv_at hl 0 rfl) ?_
      refine Pg_6 S hinX8 hK hP f52 dX8_ask_21 ?_
      refine lv_aload_n hx hb dX8_ask_24 rfl (lv_at hl 0 rfl) ?_
      refine Pg_7 S hinX8 hK hP f57 dX8_ask_25 ?_
      refine lv_iload_n hx hb dX8_ask_28 rfl (lv_at hl 1 rfl) ?_
      refine lv_iload_n hx hb dX8_ask_29 rfl (lv_at hl 2 rfl) ?_
      obtain ⟨r5, τ6, hr5, hf⟩ := bd2_some hf
      refine kz_v (ci := 1) (q0 := 0) (n := 3) S hRf hRl hK hA hZ hP hD hS hl [19, 20, 3, 4, 5, 6, 7] [.ref (uL 0), .int a1, .int a2] [] (kA_answer l D uA uL cI cB cR cM cJ t σA σL a1 a2 r5 τ6 hr5) pw_cAL rfl rfl gX8_ask_X1_answer rfl (by decide +kernel) rfl ⟨by decide, by decide⟩ rfl rfl rfl rfl (Nat.le_of_ble_eq_true rfl) dX8_ask_30 (fun H locs hP hD hS => ?_)
      rw [pw_kAL] at hP hD
      refine W.eq (g2 := F0 m 33 ls [.int r5]) rfl ?_
      exact hre _ _ _ _ _ _ hf hP hD hS dX8_ask_33
    · have hf := (if_neg c4).symm.trans hf
      refine lv_ldc (v := (-1000001)) hx hb hown c80 dX8_ask_17 ?_
      exact hre _ _ _ _ _ _ hf hP hD hS dX8_ask_19
def FP_trace (σA : MS) (a1 : Int32) : Option Int32 :=
  Option.bind (FA_noted σA a1) fun (r1 : Int32) => some (r1)
set_option maxHeartbeats 4000000 in
set_option maxRecDepth 100000 in
theorem kP_trace (l : Launch) (D : va_G) (uP uL uG uR uT uC uA uK : Nat → Nat) (uW uI : Nat → Nat → Nat) (cI cB cR cM cJ : ClassId) (t : Nat → Nat) (σP σL σG σR σT σC σA σK : MS) (ω ι : Nat → MS) (a1 : Int32) (r : Int32) (hf : FP_trace σA a1 = some (r)) : KZ l D (ctys cI cB cR cM cJ) t yX8_trace wsX8_trace 2 43 [.ref (uP 0), .int a1] (pw uP uL uG uR uT uC uA uK uW uI cI cB cR cM cJ σP σL σG σR σT σC σA σK ω ι) (some (.int r)) (pw uP uL uG uR uT uC uA uK uW uI cI cB cR cM cJ σP σL σG σR σT σC σA σK ω ι) := by
  refine KZ.ofI (own := RX8) (cc := cX8_trace) (maxL := 2) (by decide) rfl rfl (Nat.le_of_ble_eq_true rfl) ?_
  intro p e s m args below meth c R Q A ls S hRf hRl hK hA hP hD hS hl hZ hret
  obtain ⟨hx, hb, hml, hown, hts⟩ := id S
  have f52 := hts (.fieldLink RX8 52 "PenniesAway" "asker" "LPenniesAway$Asker;") (by decide +kernel)
  have hinX8 : ∀ w ∈ wsX80, w ∈ wsX8_trace := fun w hw => List.mem_cons_of_mem _ (List.mem_append_left _ (List.mem_append_right _ hw))
  have hl : lv_has ls 2 [(0, .ref (uP 0)), (1, .int a1)] := hl
  have hre : ∀ (x : Int32) (pc : Nat) (ls : Array Slot) (H : Heap) (locs : List Loc), (some (x) : Option Int32) = some (r) → va_P D vwCl (pw uP uL uG uR uT uC uA uK uW uI cI cB cR cM cJ σP σL σG σR σT σC σA σK ω ι) H → va_D A (pw uP uL uG uR uT uC uA uK uW uI cI cB cR cM cJ σP σL σG σR σT σC σA σK ω ι) → va_S A s.heap H locs → decode cX8_trace pc = .ok (.ireturn, 1) → W p l e R s m args below meth c H locs 0 0 Q (F0 m pc ls [.int x]) := by intro x pc ls H locs he; cases he; exact hret pc ls H locs
  unfold FP_trace at hf
  refine lv_aload_n hx hb dX8_trace_0 rfl (lv_at hl 0 rfl) ?_
  refine Pg_6 S hinX8 hK hP f52 dX8_trace_1 ?_
  refine lv_iload_n hx hb dX8_trace_4 rfl (lv_at hl 1 rfl) ?_
  obtain ⟨r1, hr1, hf⟩ := bi_some hf
  refine kz_v (ci := 1) (q0 := 0) (n := 1) S hRf hRl hK hA hZ hP hD hS hl [19, 20] [.int a1] [] (kA_noted l D uA cI cB cR cM cJ t σA a1 r1 hr1) pw_cA rfl rfl gX8_trace_X1_noted rfl (by decide +kernel) rfl ⟨by decide, by decide⟩ rfl rfl rfl rfl (Nat.le_of_ble_eq_true rfl) dX8_trace_5 (fun H locs hP hD hS => ?_)
  rw [pw_kA] at hP hD
  refine W.eq (g2 := F0 m 8 ls [.int r1]) rfl ?_
  exact hre _ _ _ _ _ hf hP hD hS dX8_trace_8
def FP_rowsThere_25 (ag4 : (Nat → MS) → Int32 → Int32 → Option Int32) (ω : (Nat → MS)) (l1 : Int32) (l2 : Int32) : Option Int32 :=
  nm (l2 + 1) fun (x7 : Int32) => ag4 ω l1 x7
def FP_rowsThere_4 : Nat → (Nat → MS) → Int32 → Int32 → Option Int32
  | 0, _, _, _ => none
  | n + 1, ω, l1, l2 => if 8 ≤ l2 then (some (l1)) else (gd (¬ ((l2 : Int32) < 0 ∨ 8 ≤ Int32.toNatClampNeg l2)) (gd ((Int32.toNatClampNeg l2) < 8) (Option.bind (FW_missing (ω (Int32.toNatClampNeg l2))) fun (r3 : Int32) => if r3 = 0 then (nm (l1 + 1) fun (x6 : Int32) => FP_rowsThere_25 (FP_rowsThere_4 n) ω x6 l2) else (FP_rowsThere_25 (FP_rowsThere_4 n) ω l1 l2))))
def FP_rowsThere (ω : (Nat → MS)) : Option Int32 :=
  FP_rowsThere_4 fuelN ω 0 0
set_option maxHeartbeats 4000000 in
set_option maxRecDepth 100000 in
theorem kP_rowsThere (l : Launch) (D : va_G) (uP uL uG uR uT uC uA uK : Nat → Nat) (uW uI : Nat → Nat → Nat) (cI cB cR cM cJ : ClassId) (t : Nat → Nat) (σP σL σG σR σT σC σA σK : MS) (ω ι : Nat → MS) (r : Int32) (hf : FP_rowsThere ω = some (r)) : KZ l D (ctys cI cB cR cM cJ) t yX8_rowsThere wsX8_rowsThere 1 20 [.ref (uP 0)] (pw uP uL uG uR uT uC uA uK uW uI cI cB cR cM cJ σP σL σG σR σT σC σA σK ω ι) (some (.int r)) (pw uP uL uG uR uT uC uA uK uW uI cI cB cR cM cJ σP σL σG σR σT σC σA σK ω ι) := by
  refine KZ.ofI (own := RX8) (cc := cX8_rowsThere) (maxL := 3) (by decide) rfl rfl (Nat.le_of_ble_eq_true rfl) ?_
  intro p e s m args below meth c R Q A ls S hRf hRl hK hA hP hD hS hl hZ hret
  obtain ⟨hx, hb, hml, hown, hts⟩ := id S
  have f11 := hts (.fieldLink RX8 11 "PenniesAway" "rows" "[LPenniesAway$Row;") (by decide +kernel)
  have hinX8 : ∀ w ∈ wsX80, w ∈ wsX8_rowsThere := fun w hw => List.mem_cons_of_mem _ (List.mem_append_left _ (List.mem_append_right _ hw))
  have hl : lv_has ls 3 [(0, .ref (uP 0))] := hl
  have hre : ∀ (x : Int32) (pc : Nat) (ls : Array Slot) (H : Heap) (locs : List Loc), (some (x) : Option Int32) = some (r) → va_P D vwCl (pw uP uL uG uR uT uC uA uK uW uI cI cB cR cM cJ σP σL σG σR σT σC σA σK ω ι) H → va_D A (pw uP uL uG uR uT uC uA uK uW uI cI cB cR cM cJ σP σL σG σR σT σC σA σK ω ι) → va_S A s.heap H locs → decode cX8_rowsThere pc = .ok (.ireturn, 1) → W p l e R s m args below meth c H locs 0 0 Q (F0 m pc ls [.int x]) := by intro x pc ls H locs he; cases he; exact hret pc ls H locs
  have b25 : ∀ (ag4 : (Nat → MS) → Int32 → Int32 → Option Int32) (hag4 : ∀ (l1 : Int32) (l2 : Int32) (ls : Array Slot) (H : Heap) (locs : List Loc), ag4 ω l1 l2 = some (r) → lv_has ls 3 [(0, .ref (uP 0)), (1, .int l1), (2, .int l2)] → va_P D vwCl (pw uP uL uG uR uT uC uA uK uW uI cI cB cR cM cJ σP σL σG σR σT σC σA σK ω ι) H → va_D A (pw uP uL uG uR uT uC uA uK uW uI cI cB cR cM cJ σP σL σG σR σT σC σA σK ω ι) → va_S A s.heap H locs → W p l e R s m args below meth c H locs 0 0 Q (F0 m 4 ls [])), ∀ (l1 : Int32) (l2 : Int32) (ls : Array Slot) (H : Heap) (locs : List Loc), FP_rowsThere_25 ag4 ω l1 l2 = some (r) → lv_has ls 3 [(0, .ref (uP 0)), (1, .int l1), (2, .int l2)] → va_P D vwCl (pw uP uL uG uR uT uC uA uK uW uI cI cB cR cM cJ σP σL σG σR σT σC σA σK ω ι) H → va_D A (pw uP uL uG uR uT uC uA uK uW uI cI cB cR cM cJ σP σL σG σR σT σC σA σK ω ι) → va_S A s.heap H locs → W p l e R s m args below meth c H locs 0 0 Q (F0 m 25 ls []) := by
    intro ag4 hag4 l1 l2 ls H locs hf hl hP hD hS
    unfold FP_rowsThere_25 at hf
    obtain ⟨x7, ex7, hf⟩ := nm_some hf
    refine lv_iinc (v := x7) (lv' := [(2, .int x7), (0, .ref (uP 0)), (1, .int l1)]) hx hb dX8_rowsThere_25 hl (k := 2) rfl (by rw [ex7]; rfl) (by decide) rfl (fun ls hl => ?_)
    refine lv_goto (tgt := 4) hx hb dX8_rowsThere_28 (by decide) ?_
    exact hag4 _ _ _ _ _ hf (lv_sub hl [1, 2, 0] rfl) hP hD hS
  have b4 : ∀ (n : Nat), ∀ (l1 : Int32) (l2 : Int32) (ls : Array Slot) (H : Heap) (locs : List Loc), FP_rowsThere_4 n ω l1 l2 = some (r) → lv_has ls 3 [(0, .ref (uP 0)), (1, .int l1), (2, .int l2)] → va_P D vwCl (pw uP uL uG uR uT uC uA uK uW uI cI cB cR cM cJ σP σL σG σR σT σC σA σK ω ι) H → va_D A (pw uP uL uG uR uT uC uA uK uW uI cI cB cR cM cJ σP σL σG σR σT σC σA σK ω ι) → va_S A s.heap H locs → W p l e R s m args below meth c H locs 0 0 Q (F0 m 4 ls []) := by
    intro n
    induction n with
    | zero => intro l1 l2 ls H locs hf; exact absurd hf (by simp [FP_rowsThere_4])
    | succ n ih =>
      intro l1 l2 ls H locs hf hl hP hD hS
      rw [FP_rowsThere_4] at hf
      refine lv_iload_n hx hb dX8_rowsThere_4 rfl (lv_at hl 2 rfl) ?_
      refine lv_bipush (v := 8) hx hb dX8_rowsThere_5 (by decide) ?_
      refine lv_icmp_ge (tgt := 31) hx hb dX8_rowsThere_7 (by decide) (fun c1 => ?_) (fun c1 => ?_)
      · have hf := (if_pos c1).symm.trans hf
        refine lv_iload_n hx hb dX8_rowsThere_31 rfl (lv_at hl 1 rfl) ?_
        exact hre _ _ _ _ _ hf hP hD hS dX8_rowsThere_32
      · have hf := (if_neg c1).symm.trans hf
        refine lv_aload_n hx hb dX8_rowsThere_10 rfl (lv_at hl 0 rfl) ?_
        refine Pg_0 S hinX8 hK hP f11 dX8_rowsThere_11 ?_
        refine lv_iload_n hx hb dX8_rowsThere_14 rfl (lv_at hl 2 rfl) ?_
        obtain ⟨g2, hf⟩ := gd_some hf
        refine va_aldq (f := kRefs 8 (fun i => uW i 0)) (n := 8) (cA := cR) (C := RX6) hx hb hK hP 1 2 rfl rfl g2 dX8_rowsThere_15 ?_
        refine W.eq (g2 := F0 m 16 ls [.ref (uW (Int32.toNatClampNeg l2) 0)]) (by rw [kRefs, if_pos (Nat.not_le.mp (fun q => g2 (Or.inr q)))]; rfl) ?_
        obtain ⟨k4, hf⟩ := gd_some hf
        obtain ⟨r3, hr3, hf⟩ := bi_some hf
        refine kz_v (ci := 5) (q0 := 0) (n := 0) S hRf hRl hK hA hZ hP hD hS hl [47 + 2 * (Int32.toNatClampNeg l2), 48 + 2 * (Int32.toNatClampNeg l2)] [] [] (kW_missing l D (uW (Int32.toNatClampNeg l2)) cI cB cR cM cJ t (ω (Int32.toNatClampNeg l2)) r3 hr3) (pw_cW (Int32.toNatClampNeg l2) k4) (pw_nW (Int32.toNatClampNeg l2) k4) rfl gX8_rowsThere_X6_missing rfl (by decide +kernel) rfl ⟨by decide, by decide⟩ rfl rfl rfl rfl (Nat.le_of_ble_eq_true rfl) dX8_rowsThere_16 (fun H locs hP hD hS => ?_)
        rw [pw_kW (Int32.toNatClampNeg l2) k4, va_up_id] at hP hD
        refine W.eq (g2 := F0 m 19 ls [.int r3]) rfl ?_
        refine lv_if_ne (tgt := 25) hx hb dX8_rowsThere_19 (by decide) (fun c5 => ?_) (fun c5 => ?_)
        · have hf := (if_neg c5).symm.trans hf
          exact b25 (FP_rowsThere_4 n) ih _ _ _ _ _ hf (lv_sub hl [0, 1, 2] rfl) hP hD hS
        · have hf := (if_pos c5).symm.trans hf
          obtain ⟨x6, ex6, hf⟩ := nm_some hf
          refine lv_iinc (v := x6) (lv' := [(1, .int x6), (0, .ref (uP 0)), (2, .int l2)]) hx hb dX8_rowsThere_22 hl (k := 1) rfl (by rw [ex6]; rfl) (by decide) rfl (fun ls hl => ?_)
          exact b25 (FP_rowsThere_4 n) ih _ _ _ _ _ hf (lv_sub hl [1, 0, 2] rfl) hP hD hS
  unfold FP_rowsThere at hf
  refine lv_iconst (v := 0) hx hb dX8_rowsThere_0 (by decide) ?_
  refine lv_istore_n (lv' := [(1, .int 0), (0, .ref (uP 0))]) hx hb dX8_rowsThere_1 rfl hl (by decide) rfl (fun ls hl => ?_)
  refine lv_iconst (v := 0) hx hb dX8_rowsThere_2 (by decide) ?_
  refine lv_istore_n (lv' := [(2, .int 0), (1, .int 0), (0, .ref (uP 0))]) hx hb dX8_rowsThere_3 rfl hl (by decide) rfl (fun ls hl => ?_)
  exact b4 fuelN _ _ _ _ _ hf (lv_sub hl [2, 1, 0] rfl) hP hD hS
def FP_count (σL : MS) (σT : MS) (σK : MS) (ω : (Nat → MS)) (a1 : Int32) : Option Int32 :=
  if Int32.toInt a1 < 0 ∨ 7 < Int32.toInt a1 then (some ((-1000001))) else (if a1 = 0 then (Option.bind (FP_rowsThere ω) fun (r5 : Int32) => some (r5)) else (if a1 = 1 then (some ((σL.1 6))) else (if a1 = 2 then (some ((σL.1 7))) else (if a1 = 3 then (Option.bind (FL_today σL) fun (r4 : Int32) => some (r4)) else (if a1 = 4 then (some ((σK.1 2))) else (if a1 = 5 then (Option.bind (FL_howMany σL 4 1) fun (r3 : Int32) => some (r3)) else (if a1 = 6 then (Option.bind (FL_howMany σL 2 3) fun (r2 : Int32) => some (r2)) else (if a1 = 7 then (some ((σT.1 1))) else (none)))))))))
set_option maxHeartbeats 4000000 in
set_option maxRecDepth 100000 in
theorem kP_count (l : Launch) (D : va_G) (uP uL uG uR uT uC uA uK : Nat → Nat) (uW uI : Nat → Nat → Nat) (cI cB cR cM cJ : ClassId) (t : Nat → Nat) (σP σL σG σR σT σC σA σK : MS) (ω ι : Nat → MS) (a1 : Int32) (r : Int32) (hf : FP_count σL σT σK ω a1 = some (r)) : KZ l D (ctys cI cB cR cM cJ) t yX8_count wsX8_count 2 46 [.ref (uP 0), .int a1] (pw uP uL uG uR uT uC uA uK uW uI cI cB cR cM cJ σP σL σG σR σT σC σA σK ω ι) (some (.int r)) (pw uP uL uG uR uT uC uA uK uW uI cI cB cR cM cJ σP σL σG σR σT σC σA σK ω ι) := by
  refine KZ.ofI (own := RX8) (cc := cX8_count) (maxL := 2) (by decide) rfl rfl (Nat.le_of_ble_eq_true rfl) ?_
  intro p e s m args below meth c R Q A ls S hRf hRl hK hA hP hD hS hl hZ hret
  obtain ⟨hx, hb, hml, hown, hts⟩ := id S
  have c80 := hts (.constant RX8 80 (-1000001)) (by decide +kernel)
  have f32 := hts (.fieldLink RX8 32 "PenniesAway" "tape" "LPenniesAway$Tape;") (by decide +kernel)
  have hinX8 : ∀ w ∈ wsX80, w ∈ wsX8_count := fun w hw => List.mem_cons_of_mem _ (List.mem_append_left _ (List.mem_append_left _ (List.mem_append_left _ (List.mem_append_left _ (List.mem_append_right _ hw)))))
  have f125 := hts (.fieldLink RX8 125 "PenniesAway$Tape" "length" "I") (by decide +kernel)
  have hinX7 : ∀ w ∈ wsX70, w ∈ wsX8_count := fun w hw => List.mem_cons_of_mem _ (List.mem_append_left _ (List.mem_append_right _ hw))
  have f57 := hts (.fieldLink RX8 57 "PenniesAway" "kingdom" "LPenniesAway$Realm;") (by decide +kernel)
  have f38 := hts (.fieldLink RX8 38 "PenniesAway" "acts" "LPenniesAway$Acts;") (by decide +kernel)
  have f200 := hts (.fieldLink RX8 200 "PenniesAway$Acts" "kept" "I") (by decide +kernel)
  have hinX0 : ∀ w ∈ wsX00, w ∈ wsX8_count := fun w hw => List.mem_cons_of_mem _ (List.mem_append_left _ (List.mem_append_left _ (List.mem_append_right _ hw)))
  have f150 := hts (.fieldLink RX8 150 "PenniesAway$Realm" "coins" "I") (by decide +kernel)
  have hinX5 : ∀ w ∈ wsX50, w ∈ wsX8_count := fun w hw => List.mem_cons_of_mem _ (List.mem_append_left _ (List.mem_append_left _ (List.mem_append_left _ (List.mem_append_right _ hw))))
  have f156 := hts (.fieldLink RX8 156 "PenniesAway$Realm" "holders" "I") (by decide +kernel)
  have hl : lv_has ls 2 [(0, .ref (uP 0)), (1, .int a1)] := hl
  have hre : ∀ (x : Int32) (pc : Nat) (ls : Array Slot) (H : Heap) (locs : List Loc), (some (x) : Option Int32) = some (r) → va_P D vwCl (pw uP uL uG uR uT uC uA uK uW uI cI cB cR cM cJ σP σL σG σR σT σC σA σK ω ι) H → va_D A (pw uP uL uG uR uT uC uA uK uW uI cI cB cR cM cJ σP σL σG σR σT σC σA σK ω ι) → va_S A s.heap H locs → decode cX8_count pc = .ok (.ireturn, 1) → W p l e R s m args below meth c H locs 0 0 Q (F0 m pc ls [.int x]) := by intro x pc ls H locs he; cases he; exact hret pc ls H locs
  unfold FP_count at hf
  refine lv_iload_n hx hb dX8_count_0 rfl (lv_at hl 1 rfl) ?_
  by_cases c1 : Int32.toInt a1 < 0 ∨ 7 < Int32.toInt a1
  · have hf := (if_pos c1).symm.trans hf
    refine lv_tableOut (tgt := 113) hx hb dX8_count_1 c1 (by decide) ?_
    refine lv_ldc (v := (-1000001)) hx hb hown c80 dX8_count_113 ?_
    exact hre _ _ _ _ _ hf hP hD hS dX8_count_115
  · have hf := (if_neg c1).symm.trans hf
    by_cases c1k0 : a1 = 0
    · have hf := (if_pos c1k0).symm.trans hf
      refine lv_tableIn (tgt := 48) hx hb dX8_count_1 (by rw [c1k0]; decide) (by rw [c1k0]; decide) (by rw [c1k0]; rfl) (by decide) ?_
      refine lv_aload_n hx hb dX8_count_48 rfl (lv_at hl 0 rfl) ?_
      obtain ⟨r5, hr5, hf⟩ := bi_some hf
      refine kz_w (ci := 7) (q0 := 0) (n := 0) S hRf hRl hK hA hZ hP hD hS hl [] [] (kP_rowsThere l D uP uL uG uR uT uC uA uK uW uI cI cB cR cM cJ t σP σL σG σR σT σC σA σK ω ι r5 hr5) gX8_count_X8_rowsThere rfl (by decide +kernel) rfl ⟨by decide, by decide⟩ rfl rfl rfl rfl (Nat.le_of_ble_eq_true rfl) dX8_count_49 (fun H locs hP hD hS => ?_)
      refine W.eq (g2 := F0 m 52 ls [.int r5]) rfl ?_
      exact hre _ _ _ _ _ hf hP hD hS dX8_count_52
    · have hf := (if_neg c1k0).symm.trans hf
      by_cases c1k1 : a1 = 1
      · have hf := (if_pos c1k1).symm.trans hf
        refine lv_tableIn (tgt := 53) hx hb dX8_count_1 (by rw [c1k1]; decide) (by rw [c1k1]; decide) (by rw [c1k1]; rfl) (by decide) ?_
        refine lv_aload_n hx hb dX8_count_53 rfl (lv_at hl 0 rfl) ?_
        refine Pg_7 S hinX8 hK hP f57 dX8_count_54 ?_
        refine Lg_6 S hinX5 hK hP 3 rfl f156 dX8_count_57 ?_
        exact hre _ _ _ _ _ hf hP hD hS dX8_count_60
      · have hf := (if_neg c1k1).symm.trans hf
        by_cases c1k2 : a1 = 2
        · have hf := (if_pos c1k2).symm.trans hf
          refine lv_tableIn (tgt := 61) hx hb dX8_count_1 (by rw [c1k2]; decide) (by rw [c1k2]; decide) (by rw [c1k2]; rfl) (by decide) ?_
          refine lv_aload_n hx hb dX8_count_61 rfl (lv_at hl 0 rfl) ?_
          refine Pg_7 S hinX8 hK hP f57 dX8_count_62 ?_
          refine Lg_7 S hinX5 hK hP 3 rfl f150 dX8_count_65 ?_
          exact hre _ _ _ _ _ hf hP hD hS dX8_count_68
        · have hf := (if_neg c1k2).symm.trans hf
          by_cases c1k3 : a1 = 3
          · have hf := (if_pos c1k3).symm.trans hf
            refine lv_tableIn (tgt := 69) hx hb dX8_count_1 (by rw [c1k3]; decide) (by rw [c1k3]; decide) (by rw [c1k3]; rfl) (by decide) ?_
            refine lv_aload_n hx hb dX8_count_69 rfl (lv_at hl 0 rfl) ?_
            refine Pg_7 S hinX8 hK hP f57 dX8_count_70 ?_
            obtain ⟨r4, hr4, hf⟩ := bi_some hf
            refine kz_v (ci := 4) (q0 := 0) (n := 0) S hRf hRl hK hA hZ hP hD hS hl [3, 4, 5, 6, 7] [] [] (kL_today l D uL cI cB cR cM cJ t σL r4 hr4) pw_cL rfl rfl gX8_count_X5_today rfl (by decide +kernel) rfl ⟨by decide, by decide⟩ rfl rfl rfl rfl (Nat.le_of_ble_eq_true rfl) dX8_count_73 (fun H locs hP hD hS => ?_)
            rw [pw_kL] at hP hD
            refine W.eq (g2 := F0 m 76 ls [.int r4]) rfl ?_
            exact hre _ _ _ _ _ hf hP hD hS dX8_count_76
          · have hf := (if_neg c1k3).symm.trans hf
            by_cases c1k4 : a1 = 4
            · have hf := (if_pos c1k4).symm.trans hf
              refine lv_tableIn (tgt := 77) hx hb dX8_count_1 (by rw [c1k4]; decide) (by rw [c1k4]; decide) (by rw [c1k4]; rfl) (by decide) ?_
              refine lv_aload_n hx hb dX8_count_77 rfl (lv_at hl 0 rfl) ?_
              refine Pg_4 S hinX8 hK hP f38 dX8_count_78 ?_
              refine Kg_2 S hinX0 hK hP 21 rfl f200 dX8_count_81 ?_
              exact hre _ _ _ _ _ hf hP hD hS dX8_count_84
            · have hf := (if_neg c1k4).symm.trans hf
              by_cases c1k5 : a1 = 5
              · have hf := (if_pos c1k5).symm.trans hf
                refine lv_tableIn (tgt := 85) hx hb dX8_count_1 (by rw [c1k5]; decide) (by rw [c1k5]; decide) (by rw [c1k5]; rfl) (by decide) ?_
                refine lv_aload_n hx hb dX8_count_85 rfl (lv_at hl 0 rfl) ?_
                refine Pg_7 S hinX8 hK hP f57 dX8_count_86 ?_
                refine lv_iconst (v := 4) hx hb dX8_count_89 (by decide) ?_
                refine lv_iconst (v := 1) hx hb dX8_count_90 (by decide) ?_
                obtain ⟨r3, hr3, hf⟩ := bi_some hf
                refine kz_v (ci := 4) (q0 := 0) (n := 2) S hRf hRl hK hA hZ hP hD hS hl [3, 4, 5, 6, 7] [.int 4, .int 1] [] (kL_howMany l D uL cI cB cR cM cJ t σL 4 1 r3 hr3) pw_cL rfl rfl gX8_count_X5_howMany rfl (by decide +kernel) rfl ⟨by decide, by decide⟩ rfl rfl rfl rfl (Nat.le_of_ble_eq_true rfl) dX8_count_91 (fun H locs hP hD hS => ?_)
                rw [pw_kL] at hP hD
                refine W.eq (g2 := F0 m 94 ls [.int r3]) rfl ?_
                exact hre _ _ _ _ _ hf hP hD hS dX8_count_94
              · have hf := (if_neg c1k5).symm.trans hf
                by_cases c1k6 : a1 = 6
                · have hf := (if_pos c1k6).symm.trans hf
                  refine lv_tableIn (tgt := 95) hx hb dX8_count_1 (by rw [c1k6]; decide) (by rw [c1k6]; decide) (by rw [c1k6]; rfl) (by decide) ?_
                  refine lv_aload_n hx hb dX8_count_95 rfl (lv_at hl 0 rfl) ?_
                  refine Pg_7 S hinX8 hK hP f57 dX8_count_96 ?_
                  refine lv_iconst (v := 2) hx hb dX8_count_99 (by decide) ?_
                  refine lv_iconst (v := 3) hx hb dX8_count_100 (by decide) ?_
                  obtain ⟨r2, hr2, hf⟩ := bi_some hf
                  refine kz_v (ci := 4) (q0 := 0) (n := 2) S hRf hRl hK hA hZ hP hD hS hl [3, 4, 5, 6, 7] [.int 2, .int 3] [] (kL_howMany l D uL cI cB cR cM cJ t σL 2 3 r2 hr2) pw_cL rfl rfl gX8_count_X5_howMany rfl (by decide +kernel) rfl ⟨by decide, by decide⟩ rfl rfl rfl rfl (Nat.le_of_ble_eq_true rfl) dX8_count_101 (fun H locs hP hD hS => ?_)
                  rw [pw_kL] at hP hD
                  refine W.eq (g2 := F0 m 104 ls [.int r2]) rfl ?_
                  exact hre _ _ _ _ _ hf hP hD hS dX8_count_104
                · have hf := (if_neg c1k6).symm.trans hf
                  by_cases c1k7 : a1 = 7
                  · have hf := (if_pos c1k7).symm.trans hf
                    refine lv_tableIn (tgt := 105) hx hb dX8_count_1 (by rw [c1k7]; decide) (by rw [c1k7]; decide) (by rw [c1k7]; rfl) (by decide) ?_
                    refine lv_aload_n hx hb dX8_count_105 rfl (lv_at hl 0 rfl) ?_
                    refine Pg_3 S hinX8 hK hP f32 dX8_count_106 ?_
                    refine Tg_1 S hinX7 hK hP 14 rfl f125 dX8_count_109 ?_
                    exact hre _ _ _ _ _ hf hP hD hS dX8_count_112
                  · have hf := (if_neg c1k7).symm.trans hf
                    exact absurd hf (by simp)
def FP_status (σP : MS) : Option Int32 :=
  some ((σP.1 9))
set_option maxHeartbeats 4000000 in
set_option maxRecDepth 100000 in
theorem kP_status (l : Launch) (D : va_G) (uP uL uG uR uT uC uA uK : Nat → Nat) (uW uI : Nat → Nat → Nat) (cI cB cR cM cJ : ClassId) (t : Nat → Nat) (σP σL σG σR σT σC σA σK : MS) (ω ι : Nat → MS) (r : Int32) (hf : FP_status σP = some (r)) : KZ l D (ctys cI cB cR cM cJ) t yX8_status wsX8_status 0 0 [.ref (uP 0)] (pw uP uL uG uR uT uC uA uK uW uI cI cB cR cM cJ σP σL σG σR σT σC σA σK ω ι) (some (.int r)) (pw uP uL uG uR uT uC uA uK uW uI cI cB cR cM cJ σP σL σG σR σT σC σA σK ω ι) := by
  refine KZ.ofI (own := RX8) (cc := cX8_status) (maxL := 1) (by decide) rfl rfl (Nat.le_of_ble_eq_true rfl) ?_
  intro p e s m args below meth c R Q A ls S hRf hRl hK hA hP hD hS hl hZ hret
  obtain ⟨hx, hb, hml, hown, hts⟩ := id S
  have f64 := hts (.fieldLink RX8 64 "PenniesAway" "latestFinding" "I") (by decide +kernel)
  have hinX8 : ∀ w ∈ wsX80, w ∈ wsX8_status := fun w hw => List.mem_cons_of_mem _ (List.mem_append_right _ hw)
  have hl : lv_has ls 1 [(0, .ref (uP 0))] := hl
  have hre : ∀ (x : Int32) (pc : Nat) (ls : Array Slot) (H : Heap) (locs : List Loc), (some (x) : Option Int32) = some (r) → va_P D vwCl (pw uP uL uG uR uT uC uA uK uW uI cI cB cR cM cJ σP σL σG σR σT σC σA σK ω ι) H → va_D A (pw uP uL uG uR uT uC uA uK uW uI cI cB cR cM cJ σP σL σG σR σT σC σA σK ω ι) → va_S A s.heap H locs → decode cX8_status pc = .ok (.ireturn, 1) → W p l e R s m args below meth c H locs 0 0 Q (F0 m pc ls [.int x]) := by intro x pc ls H locs he; cases he; exact hret pc ls H locs
  unfold FP_status at hf
  refine lv_aload_n hx hb dX8_status_0 rfl (lv_at hl 0 rfl) ?_
  refine Pg_9 S hinX8 hK hP f64 dX8_status_1 ?_
  exact hre _ _ _ _ _ hf hP hD hS dX8_status_4
