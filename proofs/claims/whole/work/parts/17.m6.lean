def FM_as (σ : MS) (a1 : Int32) (a2 : Int32) : Option (Int32 × MS) :=
  nm (setF σ 0 0) fun (σ1 : MS) => Option.bind (FM_isCoin σ1 a1) fun (r2 : Int32) => if r2 = 0 then (some ((-1000001), σ1)) else (Option.bind (FM_in (Int32.toInt64 a2) 0 5) fun (r4 : Int32) => if r4 = 0 then (some ((-1000001), σ1)) else (nm (setF σ1 1 0) fun (σ6 : MS) => Option.bind (FM_of σ6 a1 0) fun (r7 : Int32) => Option.bind (FM_isOf r7 a2) fun (r8 : Int32) => if r8 = 0 then (bd2 (FM_finding σ6 3) fun (r10 : Int32) (σ11 : MS) => some (r10, σ11)) else (some (a1, σ6))))
set_option maxHeartbeats 4000000 in
set_option maxRecDepth 100000 in
theorem kM_as (l : Launch) (D : va_G) (h : Nat → Nat) (cI cZ : ClassId) (σ : MS) (a1 : Int32) (a2 : Int32) (r : Int32) (σ' : MS) (hf : FM_as σ a1 a2 = some (r, σ')) : KK l D [(cI, .int), (cZ, .boolean)] yX9_as wsX9_as 2 46 [.ref (h 0), .int a1, .int a2] (mw h cI cZ σ) (some (.int r)) (mw h cI cZ σ') := by
  refine KK.ofI (own := RX9) (cc := cX9_as) (maxL := 3) (by decide) rfl rfl (Nat.le_of_ble_eq_true rfl) ?_
  intro p e s m args below meth c R Q A ls S hRf hRl hK hA hP hD hS hl hret
  obtain ⟨hx, hb, hml, hown, hts⟩ := id S
  have hin : ∀ w ∈ wsX90, w ∈ wsX9_as := fun w hw => List.mem_cons_of_mem _ (List.mem_append_right _ hw)
  have f47 := hts (.fieldLink RX9 47 "PenniesAwayModel" "thrown" "I") (by decide +kernel)
  have c67 := hts (.constant RX9 67 (-1000001)) (by decide +kernel)
  have c273 := hts (.constantLong RX9 273 (5)) (by decide +kernel)
  have f51 := hts (.fieldLink RX9 51 "PenniesAwayModel" "status" "I") (by decide +kernel)
  have hl : lv_has ls 3 [(0, .ref (h 0)), (1, .int a1), (2, .int a2)] := hl
  have hre : ∀ (x : Int32) (σx : MS) (pc : Nat) (ls : Array Slot) (H : Heap) (locs : List Loc), (some (x, σx) : Option (Int32 × MS)) = some (r, σ') → va_P D vwCl (mw h cI cZ σx) H → va_D A (mw h cI cZ σx) → va_S A s.heap H locs → decode cX9_as pc = .ok (.ireturn, 1) → W p l e R s m args below meth c H locs 0 0 Q (F0 m pc ls [.int x]) := by intro x σx pc ls H locs he; cases he; exact hret pc ls H locs
  unfold FM_as at hf
  refine lv_aload_n hx hb dX9_as_0 rfl (lv_at hl 0 rfl) ?_
  refine lv_iconst (v := 0) hx hb dX9_as_1 (by decide) ?_
  refine Mp_0 S hin hK hP hD hS f47 dX9_as_2 (fun H locs hP hD hS => ?_)
  obtain ⟨σ1, eσ1, hf⟩ := nm_some hf
  rw [← eσ1] at hP hD
  refine lv_aload_n hx hb dX9_as_5 rfl (lv_at hl 0 rfl) ?_
  refine lv_iload_n hx hb dX9_as_6 rfl (lv_at hl 1 rfl) ?_
  obtain ⟨r2, hr2, hf⟩ := bi_some hf
  refine kc_v (ci := 8) (q0 := 0) (n := 1) S hRf hRl hK hA hP hD hS hl [.int a1] [] (kM_isCoin l D h cI cZ σ1 a1 r2 hr2) gX9_as_X9_isCoin rfl (by decide +kernel) rfl ⟨by decide, by decide⟩ rfl rfl rfl rfl (Nat.le_of_ble_eq_true rfl) dX9_as_7 (fun H locs hP hD hS => ?_)
  refine W.eq (g2 := F0 m 10 ls [.int r2]) rfl ?_
  refine lv_if_eq (tgt := 25) hx hb dX9_as_10 (by decide) (fun c3 => ?_) (fun c3 => ?_)
  · have hf := (if_pos c3).symm.trans hf
    refine lv_ldc (v := (-1000001)) hx hb hown c67 dX9_as_25 ?_
    exact hre _ _ _ _ _ _ hf hP hD hS dX9_as_27
  · have hf := (if_neg c3).symm.trans hf
    refine lv_iload_n hx hb dX9_as_13 rfl (lv_at hl 2 rfl) ?_
    refine lv_i2l hx hb dX9_as_14 rfl ?_
    refine lv_lconst (v := 0) hx hb dX9_as_15 (by decide) ?_
    refine lv_ldc2 (v := 5) hx hb hown c273 dX9_as_16 ?_
    obtain ⟨r4, hr4, hf⟩ := bi_some hf
    refine kc_s (n := 3) S hRf hRl hK hA hP hD hS hl [.long (Int32.toInt64 a2), .long 0, .long 5] [] (kM_in l D _ _ (Int32.toInt64 a2) 0 5 r4 hr4) gX9_as_X9_in rfl (by decide +kernel) rfl ⟨by decide, by decide⟩ rfl (Nat.le_of_ble_eq_true rfl) dX9_as_19 (fun H locs hP hD hS => ?_)
    refine W.eq (g2 := F0 m 22 ls [.int r4]) rfl ?_
    refine lv_if_ne (tgt := 28) hx hb dX9_as_22 (by decide) (fun c5 => ?_) (fun c5 => ?_)
    · have hf := (if_neg c5).symm.trans hf
      refine lv_aload_n hx hb dX9_as_28 rfl (lv_at hl 0 rfl) ?_
      refine lv_iconst (v := 0) hx hb dX9_as_29 (by decide) ?_
      refine Mp_1 S hin hK hP hD hS f51 dX9_as_30 (fun H locs hP hD hS => ?_)
      obtain ⟨σ6, eσ6, hf⟩ := nm_some hf
      rw [← eσ6] at hP hD
      refine lv_aload_n hx hb dX9_as_33 rfl (lv_at hl 0 rfl) ?_
      refine lv_iload_n hx hb dX9_as_34 rfl (lv_at hl 1 rfl) ?_
      refine lv_iconst (v := 0) hx hb dX9_as_35 (by decide) ?_
      obtain ⟨r7, hr7, hf⟩ := bi_some hf
      refine kc_v (ci := 8) (q0 := 0) (n := 2) S hRf hRl hK hA hP hD hS hl [.int a1, .int 0] [] (kM_of l D h cI cZ σ6 a1 0 r7 hr7) gX9_as_X9_of rfl (by decide +kernel) rfl ⟨by decide, by decide⟩ rfl rfl rfl rfl (Nat.le_of_ble_eq_true rfl) dX9_as_36 (fun H locs hP hD hS => ?_)
      refine W.eq (g2 := F0 m 39 ls [.int r7]) rfl ?_
      refine lv_iload_n hx hb dX9_as_39 rfl (lv_at hl 2 rfl) ?_
      obtain ⟨r8, hr8, hf⟩ := bi_some hf
      refine kc_s (n := 2) S hRf hRl hK hA hP hD hS hl [.int r7, .int a2] [] (kM_isOf l D _ _ r7 a2 r8 hr8) gX9_as_X9_isOf rfl (by decide +kernel) rfl ⟨by decide, by decide⟩ rfl (Nat.le_of_ble_eq_true rfl) dX9_as_40 (fun H locs hP hD hS => ?_)
      refine W.eq (g2 := F0 m 43 ls [.int r8]) rfl ?_
      refine lv_if_eq (tgt := 50) hx hb dX9_as_43 (by decide) (fun c9 => ?_) (fun c9 => ?_)
      · have hf := (if_pos c9).symm.trans hf
        refine lv_aload_n hx hb dX9_as_50 rfl (lv_at hl 0 rfl) ?_
        refine lv_iconst (v := 3) hx hb dX9_as_51 (by decide) ?_
        obtain ⟨r10, σ11, hr10, hf⟩ := bd2_some hf
        refine kc_v (ci := 8) (q0 := 0) (n := 1) S hRf hRl hK hA hP hD hS hl [.int 3] [] (kM_finding l D h cI cZ σ6 3 r10 σ11 hr10) gX9_as_X9_finding rfl (by decide +kernel) rfl ⟨by decide, by decide⟩ rfl rfl rfl rfl (Nat.le_of_ble_eq_true rfl) dX9_as_52 (fun H locs hP hD hS => ?_)
        refine W.eq (g2 := F0 m 55 ls [.int r10]) rfl ?_
        exact hre _ _ _ _ _ _ hf hP hD hS dX9_as_55
      · have hf := (if_neg c9).symm.trans hf
        refine lv_iload_n hx hb dX9_as_46 rfl (lv_at hl 1 rfl) ?_
        refine lv_goto (tgt := 55) hx hb dX9_as_47 (by decide) ?_
        exact hre _ _ _ _ _ _ hf hP hD hS dX9_as_55
    · have hf := (if_pos c5).symm.trans hf
      refine lv_ldc (v := (-1000001)) hx hb hown c67 dX9_as_25 ?_
      exact hre _ _ _ _ _ _ hf hP hD hS dX9_as_27
def FM_began (σ : MS) (a1 : Int32) : Option MS :=
  if 16 ≤ (σ.1 25) then (some σ) else (gd (¬ (((σ.1 25) : Int32) < 0 ∨ 16 ≤ Int32.toNatClampNeg (σ.1 25))) (nm (setA σ 24 (Int32.toNatClampNeg (σ.1 25)) a1) fun (σ3 : MS) => nm (setF σ3 25 ((σ3.1 25) + 1)) fun (σ4 : MS) => some σ4))
set_option maxHeartbeats 4000000 in
set_option maxRecDepth 100000 in
theorem kM_began (l : Launch) (D : va_G) (h : Nat → Nat) (cI cZ : ClassId) (σ : MS) (a1 : Int32)  (σ' : MS) (hf : FM_began σ a1 = some σ') : KK l D [(cI, .int), (cZ, .boolean)] yX9_began wsX9_began 0 0 [.ref (h 0), .int a1] (mw h cI cZ σ) none (mw h cI cZ σ') := by
  refine KK.ofV (own := RX9) (cc := cX9_began) (maxL := 2) (by decide) rfl rfl (Nat.le_of_ble_eq_true rfl) ?_
  intro p e s m args below meth c R Q A ls S hRf hRl hK hA hP hD hS hl hret
  obtain ⟨hx, hb, hml, hown, hts⟩ := id S
  have hin : ∀ w ∈ wsX90, w ∈ wsX9_began := fun w hw => List.mem_cons_of_mem _ (List.mem_append_right _ hw)
  have f279 := hts (.fieldLink RX9 279 "PenniesAwayModel" "traced" "I") (by decide +kernel)
  have f44 := hts (.fieldLink RX9 44 "PenniesAwayModel" "trace" "[I") (by decide +kernel)
  have hl : lv_has ls 2 [(0, .ref (h 0)), (1, .int a1)] := hl
  have hre : ∀ (σx : MS) (pc : Nat) (ls : Array Slot) (H : Heap) (locs : List Loc), (some σx : Option MS) = some σ' → va_P D vwCl (mw h cI cZ σx) H → va_D A (mw h cI cZ σx) → va_S A s.heap H locs → decode cX9_began pc = .ok (.return_, 1) → W p l e R s m args below meth c H locs 0 0 Q (F0 m pc ls []) := by intro σx pc ls H locs he; cases he; exact hret pc ls H locs
  unfold FM_began at hf
  refine lv_aload_n hx hb dX9_began_0 rfl (lv_at hl 0 rfl) ?_
  refine Mg_25 S hin hK hP f279 dX9_began_1 ?_
  refine lv_bipush (v := 16) hx hb dX9_began_4 (by decide) ?_
  refine lv_icmp_ge (tgt := 29) hx hb dX9_began_6 (by decide) (fun c1 => ?_) (fun c1 => ?_)
  · have hf := (if_pos c1).symm.trans hf
    exact hre _ _ _ _ _ hf hP hD hS dX9_began_29
  · have hf := (if_neg c1).symm.trans hf
    refine lv_aload_n hx hb dX9_began_9 rfl (lv_at hl 0 rfl) ?_
    refine Mg_24 S hin hK hP f44 dX9_began_10 ?_
    refine lv_aload_n hx hb dX9_began_13 rfl (lv_at hl 0 rfl) ?_
    refine Mg_25 S hin hK hP f279 dX9_began_14 ?_
    refine lv_iload_n hx hb dX9_began_17 rfl (lv_at hl 1 rfl) ?_
    obtain ⟨g2, hf⟩ := gd_some hf
    refine Ms_24 S hK hP hD hS g2 dX9_began_18 (fun H locs hP hD hS => ?_)
    obtain ⟨σ3, eσ3, hf⟩ := nm_some hf
    rw [← eσ3] at hP hD
    refine lv_aload_n hx hb dX9_began_19 rfl (lv_at hl 0 rfl) ?_
    refine lv_dup hx hb dX9_began_20 rfl ?_
    refine Mg_25 S hin hK hP f279 dX9_began_21 ?_
    refine lv_iconst (v := 1) hx hb dX9_began_24 (by decide) ?_
    refine lv_iadd hx hb dX9_began_25 ?_
    refine Mp_25 S hin hK hP hD hS f279 dX9_began_26 (fun H locs hP hD hS => ?_)
    obtain ⟨σ4, eσ4, hf⟩ := nm_some hf
    rw [← eσ4] at hP hD
    exact hre _ _ _ _ _ hf hP hD hS dX9_began_29
def FM_plainSize (σ : MS) (a1 : Int32) : Option (Int32 × MS) :=
  Option.bind (FM_began σ 10) fun (σ2 : MS) => Option.bind (FM_of σ2 a1 2) fun (r3 : Int32) => some (r3, σ2)
set_option maxHeartbeats 4000000 in
set_option maxRecDepth 100000 in
theorem kM_plainSize (l : Launch) (D : va_G) (h : Nat → Nat) (cI cZ : ClassId) (σ : MS) (a1 : Int32) (r : Int32) (σ' : MS) (hf : FM_plainSize σ a1 = some (r, σ')) : KK l D [(cI, .int), (cZ, .boolean)] yX9_plainSize wsX9_plainSize 1 22 [.ref (h 0), .int a1] (mw h cI cZ σ) (some (.int r)) (mw h cI cZ σ') := by
  refine KK.ofI (own := RX9) (cc := cX9_plainSize) (maxL := 2) (by decide) rfl rfl (Nat.le_of_ble_eq_true rfl) ?_
  intro p e s m args below meth c R Q A ls S hRf hRl hK hA hP hD hS hl hret
  obtain ⟨hx, hb, hml, hown, hts⟩ := id S
  have hin : ∀ w ∈ wsX90, w ∈ wsX9_plainSize := fun w hw => List.mem_cons_of_mem _ (List.mem_append_right _ hw)
  have hl : lv_has ls 2 [(0, .ref (h 0)), (1, .int a1)] := hl
  have hre : ∀ (x : Int32) (σx : MS) (pc : Nat) (ls : Array Slot) (H : Heap) (locs : List Loc), (some (x, σx) : Option (Int32 × MS)) = some (r, σ') → va_P D vwCl (mw h cI cZ σx) H → va_D A (mw h cI cZ σx) → va_S A s.heap H locs → decode cX9_plainSize pc = .ok (.ireturn, 1) → W p l e R s m args below meth c H locs 0 0 Q (F0 m pc ls [.int x]) := by intro x σx pc ls H locs he; cases he; exact hret pc ls H locs
  unfold FM_plainSize at hf
  refine lv_aload_n hx hb dX9_plainSize_0 rfl (lv_at hl 0 rfl) ?_
  refine lv_bipush (v := 10) hx hb dX9_plainSize_1 (by decide) ?_
  obtain ⟨σ2, hr1, hf⟩ := bi_some hf
  refine kc_v (ci := 8) (q0 := 0) (n := 1) S hRf hRl hK hA hP hD hS hl [.int 10] [] (kM_began l D h cI cZ σ 10 σ2 hr1) gX9_plainSize_X9_began rfl (by decide +kernel) rfl ⟨by decide, by decide⟩ rfl rfl rfl rfl (Nat.le_of_ble_eq_true rfl) dX9_plainSize_3 (fun H locs hP hD hS => ?_)
  refine W.eq (g2 := F0 m 6 ls []) rfl ?_
  refine lv_aload_n hx hb dX9_plainSize_6 rfl (lv_at hl 0 rfl) ?_
  refine lv_iload_n hx hb dX9_plainSize_7 rfl (lv_at hl 1 rfl) ?_
  refine lv_iconst (v := 2) hx hb dX9_plainSize_8 (by decide) ?_
  obtain ⟨r3, hr3, hf⟩ := bi_some hf
  refine kc_v (ci := 8) (q0 := 0) (n := 2) S hRf hRl hK hA hP hD hS hl [.int a1, .int 2] [] (kM_of l D h cI cZ σ2 a1 2 r3 hr3) gX9_plainSize_X9_of rfl (by decide +kernel) rfl ⟨by decide, by decide⟩ rfl rfl rfl rfl (Nat.le_of_ble_eq_true rfl) dX9_plainSize_9 (fun H locs hP hD hS => ?_)
  refine W.eq (g2 := F0 m 12 ls [.int r3]) rfl ?_
  exact hre _ _ _ _ _ _ hf hP hD hS dX9_plainSize_12
def FM_forgedSize (σ : MS) (a1 : Int32) : Option (Int32 × MS) :=
  Option.bind (FM_began σ 13) fun (σ2 : MS) => bd2 (FM_plainSize σ2 a1) fun (r3 : Int32) (σ4 : MS) => some ((r3 - 100), σ4)
set_option maxHeartbeats 4000000 in
set_option maxRecDepth 100000 in
theorem kM_forgedSize (l : Launch) (D : va_G) (h : Nat → Nat) (cI cZ : ClassId) (σ : MS) (a1 : Int32) (r : Int32) (σ' : MS) (hf : FM_forgedSize σ a1 = some (r, σ')) : KK l D [(cI, .int), (cZ, .boolean)] yX9_forgedSize wsX9_forgedSize 2 43 [.ref (h 0), .int a1] (mw h cI cZ σ) (some (.int r)) (mw h cI cZ σ') := by
  refine KK.ofI (own := RX9) (cc := cX9_forgedSize) (maxL := 2) (by decide) rfl rfl (Nat.le_of_ble_eq_true rfl) ?_
  intro p e s m args below meth c R Q A ls S hRf hRl hK hA hP hD hS hl hret
  obtain ⟨hx, hb, hml, hown, hts⟩ := id S
  have hin : ∀ w ∈ wsX90, w ∈ wsX9_forgedSize := fun w hw => List.mem_cons_of_mem _ (List.mem_append_right _ hw)
  have hl : lv_has ls 2 [(0, .ref (h 0)), (1, .int a1)] := hl
  have hre : ∀ (x : Int32) (σx : MS) (pc : Nat) (ls : Array Slot) (H : Heap) (locs : List Loc), (some (x, σx) : Option (Int32 × MS)) = some (r, σ') → va_P D vwCl (mw h cI cZ σx) H → va_D A (mw h cI cZ σx) → va_S A s.heap H locs → decode cX9_forgedSize pc = .ok (.ireturn, 1) → W p l e R s m args below meth c H locs 0 0 Q (F0 m pc ls [.int x]) := by intro x σx pc ls H locs he; cases he; exact hret pc ls H locs
  unfold FM_forgedSize at hf
  refine lv_aload_n hx hb dX9_forgedSize_0 rfl (lv_at hl 0 rfl) ?_
  refine lv_bipush (v := 13) hx hb dX9_forgedSize_1 (by decide) ?_
  obtain ⟨σ2, hr1, hf⟩ := bi_some hf
  refine kc_v (ci := 8) (q0 := 0) (n := 1) S hRf hRl hK hA hP hD hS hl [.int 13] [] (kM_began l D h cI cZ σ 13 σ2 hr1) gX9_forgedSize_X9_began rfl (by decide +kernel) rfl ⟨by decide, by decide⟩ rfl rfl rfl rfl (Nat.le_of_ble_eq_true rfl) dX9_forgedSize_3 (fun H locs hP hD hS => ?_)
  refine W.eq (g2 := F0 m 6 ls []) rfl ?_
  refine lv_aload_n hx hb dX9_forgedSize_6 rfl (lv_at hl 0 rfl) ?_
  refine lv_iload_n hx hb dX9_forgedSize_7 rfl (lv_at hl 1 rfl) ?_
  obtain ⟨r3, σ4, hr3, hf⟩ := bd2_some hf
  refine kc_v (ci := 8) (q0 := 0) (n := 1) S hRf hRl hK hA hP hD hS hl [.int a1] [] (kM_plainSize l D h cI cZ σ2 a1 r3 σ4 hr3) gX9_forgedSize_X9_plainSize rfl (by decide +kernel) rfl ⟨by decide, by decide⟩ rfl rfl rfl rfl (Nat.le_of_ble_eq_true rfl) dX9_forgedSize_8 (fun H locs hP hD hS => ?_)
  refine W.eq (g2 := F0 m 11 ls [.int r3]) rfl ?_
  refine lv_bipush (v := 100) hx hb dX9_forgedSize_11 (by decide) ?_
  refine lv_isub hx hb dX9_forgedSize_13 ?_
  exact hre _ _ _ _ _ _ hf hP hD hS dX9_forgedSize_14
def FM_markOf_85 (σ : MS) (l2 : Int32) (s0 : Int32) (s1 : Int32) : Option (Int32 × MS) :=
  nm (s1 - s0) fun (x21 : Int32) => if l2 = 4 then (some ((2 * x21), σ)) else (some (x21, σ))
def FM_markOf_54 (σ : MS) (l1 : Int32) (l2 : Int32) : Option (Int32 × MS) :=
  Option.bind (FM_began σ 21) fun (σ16 : MS) => Option.bind (FM_began σ16 20) fun (σ18 : MS) => Option.bind (FM_spanOf σ18 l1) fun (r19 : Int32) => if l2 < 3 then (FM_markOf_85 σ18 l2 0 (l1 + r19)) else (FM_markOf_85 σ18 l2 1000 (l1 + r19))
def FM_markOf_43 (σ : MS) (l1 : Int32) (l2 : Int32) : Option (Int32 × MS) :=
  if l2 < 3 then (FM_markOf_54 σ l1 l2) else (Option.bind (FM_began σ 22) fun (σ14 : MS) => FM_markOf_54 σ14 l1 l2)
def FM_markOf (σ : MS) (a1 : Int32) : Option (Int32 × MS) :=
  Option.bind (FM_of σ a1 0) fun (r1 : Int32) => if r1 = 5 then (Option.bind (FM_began σ 23) fun (σ7 : MS) => Option.bind (FM_began σ7 20) fun (σ9 : MS) => bd2 (FM_forgedSize σ9 a1) fun (r10 : Int32) (σ11 : MS) => some ((a1 - r10), σ11)) else (if r1 = 4 then (Option.bind (FM_began σ 24) fun (σ5 : MS) => FM_markOf_43 σ5 a1 r1) else (FM_markOf_43 σ a1 r1))
set_option maxHeartbeats 4000000 in
set_option maxRecDepth 100000 in
theorem kM_markOf (l : Launch) (D : va_G) (h : Nat → Nat) (cI cZ : ClassId) (σ : MS) (a1 : Int32) (r : Int32) (σ' : MS) (hf : FM_markOf σ a1 = some (r, σ')) : KK l D [(cI, .int), (cZ, .boolean)] yX9_markOf wsX9_markOf 3 64 [.ref (h 0), .int a1] (mw h cI cZ σ) (some (.int r)) (mw h cI cZ σ') := by
  refine KK.ofI (own := RX9) (cc := cX9_markOf) (maxL := 4) (by decide) rfl rfl (Nat.le_of_ble_eq_true rfl) ?_
  intro p e s m args below meth c R Q A ls S hRf hRl hK hA hP hD hS hl hret
  obtain ⟨hx, hb, hml, hown, hts⟩ := id S
  have hin : ∀ w ∈ wsX90, w ∈ wsX9_markOf := fun w hw => List.mem_cons_of_mem _ (List.mem_append_right _ hw)
  have hl : lv_has ls 4 [(0, .ref (h 0)), (1, .int a1)] := hl
  have hre : ∀ (x : Int32) (σx : MS) (pc : Nat) (ls : Array Slot) (H : Heap) (locs : List Loc), (some (x, σx) : Option (Int32 × MS)) = some (r, σ') → va_P D vwCl (mw h cI cZ σx) H → va_D A (mw h cI cZ σx) → va_S A s.heap H locs → decode cX9_markOf pc = .ok (.ireturn, 1) → W p l e R s m args below meth c H locs 0 0 Q (F0 m pc ls [.int x]) := by intro x σx pc ls H locs he; cases he; exact hret pc ls H locs
  have b85 : ∀ (σ : MS) (l2 : Int32) (s0 : Int32) (s1 : Int32) (ls : Array Slot) (H : Heap) (locs : List Loc), FM_markOf_85 σ l2 s0 s1 = some (r, σ') → lv_has ls 4 [(2, .int l2)] → va_P D vwCl (mw h cI cZ σ) H → va_D A (mw h cI cZ σ) → va_S A s.heap H locs → W p l e R s m args below meth c H locs 0 0 Q (F0 m 85 ls [.int s0, .int s1]) := by
    intro σ l2 s0 s1 ls H locs hf hl hP hD hS
    unfold FM_markOf_85 at hf
    refine lv_isub hx hb dX9_markOf_85 ?_
    refine lv_topi (fun x21 ex21 => ?_)
    have hf := nm_at ex21 hf
    refine lv_istore_n (lv' := [(3, .int x21), (2, .int l2)]) hx hb dX9_markOf_86 rfl hl (by decide) rfl (fun ls hl => ?_)
    refine lv_iload_n hx hb dX9_markOf_87 rfl (lv_at hl 1 rfl) ?_
    refine lv_iconst (v := 4) hx hb dX9_markOf_88 (by decide) ?_
    refine lv_icmp_ne (tgt := 98) hx hb dX9_markOf_89 (by decide) (fun c22 => ?_) (fun c22 => ?_)
    · have hf := (if_neg c22).symm.trans hf
      refine lv_iload_n hx hb dX9_markOf_98 rfl (lv_at hl 0 rfl) ?_
      exact hre _ _ _ _ _ _ hf hP hD hS dX9_markOf_99
    · have hf := (if_pos c22).symm.trans hf
      refine lv_iconst (v := 2) hx hb dX9_markOf_92 (by decide) ?_
      refine lv_iload_n hx hb dX9_markOf_93 rfl (lv_at hl 0 rfl) ?_
      refine lv_imul hx hb dX9_markOf_94 ?_
      refine lv_goto (tgt := 99) hx hb dX9_markOf_95 (by decide) ?_
      exact hre _ _ _ _ _ _ hf hP hD hS dX9_markOf_99
  have b54 : ∀ (σ : MS) (l1 : Int32) (l2 : Int32) (ls : Array Slot) (H : Heap) (locs : List Loc), FM_markOf_54 σ l1 l2 = some (r, σ') → lv_has ls 4 [(0, .ref (h 0)), (1, .int l1), (2, .int l2)] → va_P D vwCl (mw h cI cZ σ) H → va_D A (mw h cI cZ σ) → va_S A s.heap H locs → W p l e R s m args below meth c H locs 0 0 Q (F0 m 54 ls []) := by
    intro σ l1 l2 ls H locs hf hl hP hD hS
    unfold FM_markOf_54 at hf
    refine lv_aload_n hx hb dX9_markOf_54 rfl (lv_at hl 0 rfl) ?_
    refine lv_bipush (v := 21) hx hb dX9_markOf_55 (by decide) ?_
    obtain ⟨σ16, hr15, hf⟩ := bi_some hf
    refine kc_v (ci := 8) (q0 := 0) (n := 1) S hRf hRl hK hA hP hD hS hl [.int 21] [] (kM_began l D h cI cZ σ 21 σ16 hr15) gX9_markOf_X9_began rfl (by decide +kernel) rfl ⟨by decide, by decide⟩ rfl rfl rfl rfl (Nat.le_of_ble_eq_true rfl) dX9_markOf_57 (fun H locs hP hD hS => ?_)
    refine W.eq (g2 := F0 m 60 ls []) rfl ?_
    refine lv_aload_n hx hb dX9_markOf_60 rfl (lv_at hl 0 rfl) ?_
    refine lv_bipush (v := 20) hx hb dX9_markOf_61 (by decide) ?_
    obtain ⟨σ18, hr17, hf⟩ := bi_some hf
    refine kc_v (ci := 8) (q0 := 0) (n := 1) S hRf hRl hK hA hP hD hS hl [.int 20] [] (kM_began l D h cI cZ σ16 20 σ18 hr17) gX9_markOf_X9_began rfl (by decide +kernel) rfl ⟨by decide, by decide⟩ rfl rfl rfl rfl (Nat.le_of_ble_eq_true rfl) dX9_markOf_63 (fun H locs hP hD hS => ?_)
    refine W.eq (g2 := F0 m 66 ls []) rfl ?_
    refine lv_iload_n hx hb dX9_markOf_66 rfl (lv_at hl 1 rfl) ?_
    refine lv_aload_n hx hb dX9_markOf_67 rfl (lv_at hl 0 rfl) ?_
    refine lv_iload_n hx hb dX9_markOf_68 rfl (lv_at hl 1 rfl) ?_
    obtain ⟨r19, hr19, hf⟩ := bi_some hf
    refine kc_v (ci := 8) (q0 := 0) (n := 1) S hRf hRl hK hA hP hD hS hl [.int l1] [.int l1] (kM_spanOf l D h cI cZ σ18 l1 r19 hr19) gX9_markOf_X9_spanOf rfl (by decide +kernel) rfl ⟨by decide, by decide⟩ rfl rfl rfl rfl (Nat.le_of_ble_eq_true rfl) dX9_markOf_69 (fun H locs hP hD hS => ?_)
    refine W.eq (g2 := F0 m 72 ls [.int r19, .int l1]) rfl ?_
    refine lv_iadd hx hb dX9_markOf_72 ?_
    refine lv_iload_n hx hb dX9_markOf_73 rfl (lv_at hl 2 rfl) ?_
    refine lv_iconst (v := 3) hx hb dX9_markOf_74 (by decide) ?_
    refine lv_icmp_lt (tgt := 84) hx hb dX9_markOf_75 (by decide) (fun c20 => ?_) (fun c20 => ?_)
    · have hf := (if_pos c20).symm.trans hf
      refine lv_iconst (v := 0) hx hb dX9_markOf_84 (by decide) ?_
      exact b85 _ _ _ _ _ _ _ hf (lv_sub hl [2] rfl) hP hD hS
    · have hf := (if_neg c20).symm.trans hf
      refine lv_sipush (v := 1000) hx hb dX9_markOf_78 (by decide) ?_
      refine lv_goto (tgt := 85) hx hb dX9_markOf_81 (by decide) ?_
      exact b85 _ _ _ _ _ _ _ hf (lv_sub hl [2] rfl) hP hD hS
  have b43 : ∀ (σ : MS) (l1 : Int32) (l2 : Int32) (ls : Array Slot) (H : Heap) (locs : List Loc), FM_markOf_43 σ l1 l2 = some (r, σ') → lv_has ls 4 [(0, .ref (h 0)), (1, .int l1), (2, .int l2)] → va_P D vwCl (mw h cI cZ σ) H → va_D A (mw h cI cZ σ) → va_S A s.heap H locs → W p l e R s m args below meth c H locs 0 0 Q (F0 m 43 ls []) := by
    intro σ l1 l2 ls H locs hf hl hP hD hS
    unfold FM_markOf_43 at hf
    refine lv_iload_n hx hb dX9_markOf_43 rfl (lv_at hl 2 rfl) ?_
    refine lv_iconst (v := 3) hx hb dX9_markOf_44 (by decide) ?_
    refine lv_icmp_lt (tgt := 54) hx hb dX9_markOf_45 (by decide) (fun c12 => ?_) (fun c12 => ?_)
    · have hf := (if_pos c12).symm.trans hf
      exact b54 _ _ _ _ _ _ hf (lv_sub hl [0, 1, 2] rfl) hP hD hS
    · have hf := (if_neg c12).symm.trans hf
      refine lv_aload_n hx hb dX9_markOf_48 rfl (lv_at hl 0 rfl) ?_
      refine lv_bipush (v := 22) hx hb dX9_markOf_49 (by decide) ?_
      obtain ⟨σ14, hr13, hf⟩ := bi_some hf
      refine kc_v (ci := 8) (q0 := 0) (n := 1) S hRf hRl hK hA hP hD hS hl [.int 22] [] (kM_began l D h cI cZ σ 22 σ14 hr13) gX9_markOf_X9_began rfl (by decide +kernel) rfl ⟨by decide, by decide⟩ rfl rfl rfl rfl (Nat.le_of_ble_eq_true rfl) dX9_markOf_51 (fun H locs hP hD hS => ?_)
      refine W.eq (g2 := F0 m 54 ls []) rfl ?_
      exact b54 _ _ _ _ _ _ hf (lv_sub hl [0, 1, 2] rfl) hP hD hS
  unfold FM_markOf at hf
  refine lv_aload_n hx hb dX9_markOf_0 rfl (lv_at hl 0 rfl) ?_
  refine lv_iload_n hx hb dX9_markOf_1 rfl (lv_at hl 1 rfl) ?_
  refine lv_iconst (v := 0) hx hb dX9_markOf_2 (by decide) ?_
  obtain ⟨r1, hr1, hf⟩ := bi_some hf
  refine kc_v (ci := 8) (q0 := 0) (n := 2) S hRf hRl hK hA hP hD hS hl [.int a1, .int 0] [] (kM_of l D h cI cZ σ a1 0 r1 hr1) gX9_markOf_X9_of rfl (by decide +kernel) rfl ⟨by decide, by decide⟩ rfl rfl rfl rfl (Nat.le_of_ble_eq_true rfl) dX9_markOf_3 (fun H locs hP hD hS => ?_)
  refine W.eq (g2 := F0 m 6 ls [.int r1]) rfl ?_
  refine lv_istore_n (lv' := [(2, .int r1), (0, .ref (h 0)), (1, .int a1)]) hx hb dX9_markOf_6 rfl hl (by decide) rfl (fun ls hl => ?_)
  refine lv_iload_n hx hb dX9_markOf_7 rfl (lv_at hl 0 rfl) ?_
  refine lv_iconst (v := 5) hx hb dX9_markOf_8 (by decide) ?_
  refine lv_icmp_ne (tgt := 32) hx hb dX9_markOf_9 (by decide) (fun c2 => ?_) (fun c2 => ?_)
  · have hf := (if_neg c2).symm.trans hf
    refine lv_iload_n hx hb dX9_markOf_32 rfl (lv_at hl 0 rfl) ?_
    refine lv_iconst (v := 4) hx hb dX9_markOf_33 (by decide) ?_
    refine lv_icmp_ne (tgt := 43) hx hb dX9_markOf_34 (by decide) (fun c3 => ?_) (fun c3 => ?_)
    · have hf := (if_neg c3).symm.trans hf
      exact b43 _ _ _ _ _ _ hf (lv_sub hl [1, 2, 0] rfl) hP hD hS
    · have hf := (if_pos c3).symm.trans hf
      refine lv_aload_n hx hb dX9_markOf_37 rfl (lv_at hl 1 rfl) ?_
      refine lv_bipush (v := 24) hx hb dX9_markOf_38 (by decide) ?_
      obtain ⟨σ5, hr4, hf⟩ := bi_some hf
      refine kc_v (ci := 8) (q0 := 0) (n := 1) S hRf hRl hK hA hP hD hS hl [.int 24] [] (kM_began l D h cI cZ σ 24 σ5 hr4) gX9_markOf_X9_began rfl (by decide +kernel) rfl ⟨by decide, by decide⟩ rfl rfl rfl rfl (Nat.le_of_ble_eq_true rfl) dX9_markOf_40 (fun H locs hP hD hS => ?_)
      refine W.eq (g2 := F0 m 43 ls []) rfl ?_
      exact b43 _ _ _ _ _ _ hf (lv_sub hl [1, 2, 0] rfl) hP hD hS
  · have hf := (if_pos c2).symm.trans hf
    refine lv_aload_n hx hb dX9_markOf_12 rfl (lv_at hl 1 rfl) ?_
    refine lv_bipush (v := 23) hx hb dX9_markOf_13 (by decide) ?_
    obtain ⟨σ7, hr6, hf⟩ := bi_some hf
    refine kc_v (ci := 8) (q0 := 0) (n := 1) S hRf hRl hK hA hP hD hS hl [.int 23] [] (kM_began l D h cI cZ σ 23 σ7 hr6) gX9_markOf_X9_began rfl (by decide +kernel) rfl ⟨by decide, by decide⟩ rfl rfl rfl rfl (Nat.le_of_ble_eq_true rfl) dX9_markOf_15 (fun H locs hP hD hS => ?_)
    refine W.eq (g2 := F0 m 18 ls []) rfl ?_
    refine lv_aload_n hx hb dX9_markOf_18 rfl (lv_at hl 1 rfl) ?_
    refine lv_bipush (v := 20) hx hb dX9_markOf_19 (by decide) ?_
    obtain ⟨σ9, hr8, hf⟩ := bi_some hf
    refine kc_v (ci := 8) (q0 := 0) (n := 1) S hRf hRl hK hA hP hD hS hl [.int 20] [] (kM_began l D h cI cZ σ7 20 σ9 hr8) gX9_markOf_X9_began rfl (by decide +kernel) rfl ⟨by decide, by decide⟩ rfl rfl rfl rfl (Nat.le_of_ble_eq_true rfl) dX9_markOf_21 (fun H locs hP hD hS => ?_)
    refine W.eq (g2 := F0 m 24 ls []) rfl ?_
    refine lv_iload_n hx hb dX9_markOf_24 rfl (lv_at hl 2 rfl) ?_
    refine lv_aload_n hx hb dX9_markOf_25 rfl (lv_at hl 1 rfl) ?_
    refine lv_iload_n hx hb dX9_markOf_26 rfl (lv_at hl 2 rfl) ?_
    obtain ⟨r10, σ11, hr10, hf⟩ := bd2_some hf
    refine kc_v (ci := 8) (q0 := 0) (n := 1) S hRf hRl hK hA hP hD hS hl [.int a1] [.int a1] (kM_forgedSize l D h cI cZ σ9 a1 r10 σ11 hr10) gX9_markOf_X9_forgedSize rfl (by decide +kernel) rfl ⟨by decide, by decide⟩ rfl rfl rfl rfl (Nat.le_of_ble_eq_true rfl) dX9_markOf_27 (fun H locs hP hD hS => ?_)
    refine W.eq (g2 := F0 m 30 ls [.int r10, .int a1]) rfl ?_
    refine lv_isub hx hb dX9_markOf_30 ?_
    exact hre _ _ _ _ _ _ hf hP hD hS dX9_markOf_31
def FM_sizeOf_44 (σ : MS) (l1 : Int32) (l2 : Int32) : Option (Int32 × MS) :=
  Option.bind (FM_began σ 11) fun (σ11 : MS) => bd2 (FM_plainSize σ11 l1) fun (r12 : Int32) (σ13 : MS) => bd2 (FM_markOf σ13 l1) fun (r14 : Int32) (σ15 : MS) => nm (r12 + r14) fun (x16 : Int32) => if l2 = 2 then (some ((-x16), σ15)) else (if l2 = 4 then (some ((2 * x16), σ15)) else (some (x16, σ15)))
def FM_sizeOf_41 (σ : MS) (l1 : Int32) (l2 : Int32) (s0 : Int32) : Option (Int32 × MS) :=
  Option.bind (FM_began σ s0) fun (σ9 : MS) => FM_sizeOf_44 σ9 l1 l2
def FM_sizeOf_28 (σ : MS) (l1 : Int32) (l2 : Int32) : Option (Int32 × MS) :=
  if l2 = 2 then (FM_sizeOf_41 σ l1 l2 12) else (FM_sizeOf_41 σ l1 l2 14)
def FM_sizeOf (σ : MS) (a1 : Int32) : Option (Int32 × MS) :=
  Option.bind (FM_of σ a1 0) fun (r1 : Int32) => if r1 = 5 then (bd2 (FM_forgedSize σ a1) fun (r5 : Int32) (σ6 : MS) => some (r5, σ6)) else (if r1 = 2 then (FM_sizeOf_28 σ a1 r1) else (if r1 = 4 then (FM_sizeOf_28 σ a1 r1) else (FM_sizeOf_44 σ a1 r1)))
set_option maxHeartbeats 4000000 in
set_option maxRecDepth 100000 in
theorem kM_sizeOf (l : Launch) (D : va_G) (h : Nat → Nat) (cI cZ : ClassId) (σ : MS) (a1 : Int32) (r : Int32) (σ' : MS) (hf : FM_sizeOf σ a1 = some (r, σ')) : KK l D [(cI, .int), (cZ, .boolean)] yX9_sizeOf wsX9_sizeOf 4 87 [.ref (h 0), .int a1] (mw h cI cZ σ) (some (.int r)) (mw h cI cZ σ') := by
  refine KK.ofI (own := RX9) (cc := cX9_sizeOf) (maxL := 4) (by decide) rfl rfl (Nat.le_of_ble_eq_true rfl) ?_
  intro p e s m args below meth c R Q A ls S hRf hRl hK hA hP hD hS hl hret
  obtain ⟨hx, hb, hml, hown, hts⟩ := id S
  have hin : ∀ w ∈ wsX90, w ∈ wsX9_sizeOf := fun w hw => List.mem_cons_of_mem _ (List.mem_append_right _ hw)
  have hl : lv_has ls 4 [(0, .ref (h 0)), (1, .int a1)] := hl
  have hre : ∀ (x : Int32) (σx : MS) (pc : Nat) (ls : Array Slot) (H : Heap) (locs : List Loc), (some (x, σx) : Option (Int32 × MS)) = some (r, σ') → va_P D vwCl (mw h cI cZ σx) H → va_D A (mw h cI cZ σx) → va_S A s.heap H locs → decode cX9_sizeOf pc = .ok (.ireturn, 1) → W p l e R s m args below meth c H locs 0 0 Q (F0 m pc ls [.int x]) := by intro x σx pc ls H locs he; cases he; exact hret pc ls H locs
  have b44 : ∀ (σ : MS) (l1 : Int32) (l2 : Int32) (ls : Array Slot) (H : Heap) (locs : List Loc), FM_sizeOf_44 σ l1 l2 = some (r, σ') → lv_has ls 4 [(0, .ref (h 0)), (1, .int l1), (2, .int l2)] → va_P D vwCl (mw h cI cZ σ) H → va_D A (mw h cI cZ σ) → va_S A s.heap H locs → W p l e R s m args below meth c H locs 0 0 Q (F0 m 44 ls []) := by
    intro σ l1 l2 ls H locs hf hl hP hD hS
    unfold FM_sizeOf_44 at hf
    refine lv_aload_n hx hb dX9_sizeOf_44 rfl (lv_at hl 0 rfl) ?_
    refine lv_bipush (v := 11) hx hb dX9_sizeOf_45 (by decide) ?_
    obtain ⟨σ11, hr10, hf⟩ := bi_some hf
    refine kc_v (ci := 8) (q0 := 0) (n := 1) S hRf hRl hK hA hP hD hS hl [.int 11] [] (kM_began l D h cI cZ σ 11 σ11 hr10) gX9_sizeOf_X9_began rfl (by decide +kernel) rfl ⟨by decide, by decide⟩ rfl rfl rfl rfl (Nat.le_of_ble_eq_true rfl) dX9_sizeOf_47 (fun H locs hP hD hS => ?_)
    refine W.eq (g2 := F0 m 50 ls []) rfl ?_
    refine lv_aload_n hx hb dX9_sizeOf_50 rfl (lv_at hl 0 rfl) ?_
    refine lv_iload_n hx hb dX9_sizeOf_51 rfl (lv_at hl 1 rfl) ?_
    obtain ⟨r12, σ13, hr12, hf⟩ := bd2_some hf
    refine kc_v (ci := 8) (q0 := 0) (n := 1) S hRf hRl hK hA hP hD hS hl [.int l1] [] (kM_plainSize l D h cI cZ σ11 l1 r12 σ13 hr12) gX9_sizeOf_X9_plainSize rfl (by decide +kernel) rfl ⟨by decide, by decide⟩ rfl rfl rfl rfl (Nat.le_of_ble_eq_true rfl) dX9_sizeOf_52 (fun H locs hP hD hS => ?_)
    refine W.eq (g2 := F0 m 55 ls [.int r12]) rfl ?_
    refine lv_istore_n (lv' := [(3, .int r12), (0, .ref (h 0)), (1, .int l1), (2, .int l2)]) hx hb dX9_sizeOf_55 rfl hl (by decide) rfl (fun ls hl => ?_)
    refine lv_iload_n hx hb dX9_sizeOf_56 rfl (lv_at hl 0 rfl) ?_
    refine lv_aload_n hx hb dX9_sizeOf_57 rfl (lv_at hl 1 rfl) ?_
    refine lv_iload_n hx hb dX9_sizeOf_58 rfl (lv_at hl 2 rfl) ?_
    obtain ⟨r14, σ15, hr14, hf⟩ := bd2_some hf
    refine kc_v (ci := 8) (q0 := 0) (n := 1) S hRf hRl hK hA hP hD hS hl [.int l1] [.int r12] (kM_markOf l D h cI cZ σ13 l1 r14 σ15 hr14) gX9_sizeOf_X9_markOf rfl (by decide +kernel) rfl ⟨by decide, by decide⟩ rfl rfl rfl rfl (Nat.le_of_ble_eq_true rfl) dX9_sizeOf_59 (fun H locs hP hD hS => ?_)
    refine W.eq (g2 := F0 m 62 ls [.int r14, .int r12]) rfl ?_
    refine lv_iadd hx hb dX9_sizeOf_62 ?_
    refine lv_topi (fun x16 ex16 => ?_)
    have hf := nm_at ex16 hf
    refine lv_istore_n (lv' := [(3, .int x16), (0, .ref (h 0)), (1, .int l1), (2, .int l2)]) hx hb dX9_sizeOf_63 rfl hl (by decide) rfl (fun ls hl => ?_)
    refine lv_iload_n hx hb dX9_sizeOf_64 rfl (lv_at hl 3 rfl) ?_
    refine lv_iconst (v := 2) hx hb dX9_sizeOf_65 (by decide) ?_
    refine lv_icmp_ne (tgt := 74) hx hb dX9_sizeOf_66 (by decide) (fun c17 => ?_) (fun c17 => ?_)
    · have hf := (if_neg c17).symm.trans hf
      refine lv_iload_n hx hb dX9_sizeOf_74 rfl (lv_at hl 3 rfl) ?_
      refine lv_iconst (v := 4) hx hb dX9_sizeOf_75 (by decide) ?_
      refine lv_icmp_ne (tgt := 85) hx hb dX9_sizeOf_76 (by decide) (fun c18 => ?_) (fun c18 => ?_)
      · have hf := (if_neg c18).symm.trans hf
        refine lv_iload_n hx hb dX9_sizeOf_85 rfl (lv_at hl 0 rfl) ?_
        exact hre _ _ _ _ _ _ hf hP hD hS dX9_sizeOf_86
      · have hf := (if_pos c18).symm.trans hf
        refine lv_iconst (v := 2) hx hb dX9_sizeOf_79 (by decide) ?_
        refine lv_iload_n hx hb dX9_sizeOf_80 rfl (lv_at hl 0 rfl) ?_
        refine lv_imul hx hb dX9_sizeOf_81 ?_
        refine lv_goto (tgt := 86) hx hb dX9_sizeOf_82 (by decide) ?_
        exact hre _ _ _ _ _ _ hf hP hD hS dX9_sizeOf_86
    · have hf := (if_pos c17).symm.trans hf
      refine lv_iload_n hx hb dX9_sizeOf_69 rfl (lv_at hl 0 rfl) ?_
      refine lv_ineg hx hb dX9_sizeOf_70 ?_
      refine lv_goto (tgt := 86) hx hb dX9_sizeOf_71 (by decide) ?_
      exact hre _ _ _ _ _ _ hf hP hD hS dX9_sizeOf_86
  have b41 : ∀ (σ : MS) (l1 : Int32) (l2 : Int32) (s0 : Int32) (ls : Array Slot) (H : Heap) (locs : List Loc), FM_sizeOf_41 σ l1 l2 s0 = some (r, σ') → lv_has ls 4 [(0, .ref (h 0)), (1, .int l1), (2, .int l2)] → va_P D vwCl (mw h cI cZ σ) H → va_D A (mw h cI cZ σ) → va_S A s.heap H locs → W p l e R s m args below meth c H locs 0 0 Q (F0 m 41 ls [.int s0, .ref (h 0)]) := by
    intro σ l1 l2 s0 ls H locs hf hl hP hD hS
    unfold FM_sizeOf_41 at hf
    obtain ⟨σ9, hr8, hf⟩ := bi_some hf
    refine kc_v (ci := 8) (q0 := 0) (n := 1) S hRf hRl hK hA hP hD hS hl [.int s0] [] (kM_began l D h cI cZ σ s0 σ9 hr8) gX9_sizeOf_X9_began rfl (by decide +kernel) rfl ⟨by decide, by decide⟩ rfl rfl rfl rfl (Nat.le_of_ble_eq_true rfl) dX9_sizeOf_41 (fun H locs hP hD hS => ?_)
    refine W.eq (g2 := F0 m 44 ls []) rfl ?_
    exact b44 _ _ _ _ _ _ hf (lv_sub hl [0, 1, 2] rfl) hP hD hS
  have b28 : ∀ (σ : MS) (l1 : Int32) (l2 : Int32) (ls : Array Slot) (H : Heap) (locs : List Loc), FM_sizeOf_28 σ l1 l2 = some (r, σ') → lv_has ls 4 [(0, .ref (h 0)), (1, .int l1), (2, .int l2)] → va_P D vwCl (mw h cI cZ σ) H → va_D A (mw h cI cZ σ) → va_S A s.heap H locs → W p l e R s m args below meth c H locs 0 0 Q (F0 m 28 ls []) := by
    intro σ l1 l2 ls H locs hf hl hP hD hS
    unfold FM_sizeOf_28 at hf
    refine lv_aload_n hx hb dX9_sizeOf_28 rfl (lv_at hl 0 rfl) ?_
    refine lv_iload_n hx hb dX9_sizeOf_29 rfl (lv_at hl 2 rfl) ?_
    refine lv_iconst (v := 2) hx hb dX9_sizeOf_30 (by decide) ?_
    refine lv_icmp_ne (tgt := 39) hx hb dX9_sizeOf_31 (by decide) (fun c7 => ?_) (fun c7 => ?_)
    · have hf := (if_neg c7).symm.trans hf
      refine lv_bipush (v := 14) hx hb dX9_sizeOf_39 (by decide) ?_
      exact b41 _ _ _ _ _ _ _ hf (lv_sub hl [0, 1, 2] rfl) hP hD hS
    · have hf := (if_pos c7).symm.trans hf
      refine lv_bipush (v := 12) hx hb dX9_sizeOf_34 (by decide) ?_
      refine lv_goto (tgt := 41) hx hb dX9_sizeOf_36 (by decide) ?_
      exact b41 _ _ _ _ _ _ _ hf (lv_sub hl [0, 1, 2] rfl) hP hD hS
  unfold FM_sizeOf at hf
  refine lv_aload_n hx hb dX9_sizeOf_0 rfl (lv_at hl 0 rfl) ?_
  refine lv_iload_n hx hb dX9_sizeOf_1 rfl (lv_at hl 1 rfl) ?_
  refine lv_iconst (v := 0) hx hb dX9_sizeOf_2 (by decide) ?_
  obtain ⟨r1, hr1, hf⟩ := bi_some hf
  refine kc_v (ci := 8) (q0 := 0) (n := 2) S hRf hRl hK hA hP hD hS hl [.int a1, .int 0] [] (kM_of l D h cI cZ σ a1 0 r1 hr1) gX9_sizeOf_X9_of rfl (by decide +kernel) rfl ⟨by decide, by decide⟩ rfl rfl rfl rfl (Nat.le_of_ble_eq_true rfl) dX9_sizeOf_3 (fun H locs hP hD hS => ?_)
  refine W.eq (g2 := F0 m 6 ls [.int r1]) rfl ?_
  refine lv_istore_n (lv' := [(2, .int r1), (0, .ref (h 0)), (1, .int a1)]) hx hb dX9_sizeOf_6 rfl hl (by decide) rfl (fun ls hl => ?_)
  refine lv_iload_n hx hb dX9_sizeOf_7 rfl (lv_at hl 0 rfl) ?_
  refine lv_iconst (v := 5) hx hb dX9_sizeOf_8 (by decide) ?_
  refine lv_icmp_ne (tgt := 18) hx hb dX9_sizeOf_9 (by decide) (fun c2 => ?_) (fun c2 => ?_)
  · have hf := (if_neg c2).symm.trans hf
    refine lv_iload_n hx hb dX9_sizeOf_18 rfl (lv_at hl 0 rfl) ?_
    refine lv_iconst (v := 2) hx hb dX9_sizeOf_19 (by decide) ?_
    refine lv_icmp_eq (tgt := 28) hx hb dX9_sizeOf_20 (by decide) (fun c3 => ?_) (fun c3 => ?_)
    · have hf := (if_pos c3).symm.trans hf
      exact b28 _ _ _ _ _ _ hf (lv_sub hl [1, 2, 0] rfl) hP hD hS
    · have hf := (if_neg c3).symm.trans hf
      refine lv_iload_n hx hb dX9_sizeOf_23 rfl (lv_at hl 0 rfl) ?_
      refine lv_iconst (v := 4) hx hb dX9_sizeOf_24 (by decide) ?_
      refine lv_icmp_ne (tgt := 44) hx hb dX9_sizeOf_25 (by decide) (fun c4 => ?_) (fun c4 => ?_)
      · have hf := (if_neg c4).symm.trans hf
        exact b44 _ _ _ _ _ _ hf (lv_sub hl [1, 2, 0] rfl) hP hD hS
      · have hf := (if_pos c4).symm.trans hf
        exact b28 _ _ _ _ _ _ hf (lv_sub hl [1, 2, 0] rfl) hP hD hS
  · have hf := (if_pos c2).symm.trans hf
    refine lv_aload_n hx hb dX9_sizeOf_12 rfl (lv_at hl 1 rfl) ?_
    refine lv_iload_n hx hb dX9_sizeOf_13 rfl (lv_at hl 2 rfl) ?_
    obtain ⟨r5, σ6, hr5, hf⟩ := bd2_some hf
    refine kc_v (ci := 8) (q0 := 0) (n := 1) S hRf hRl hK hA hP hD hS hl [.int a1] [] (kM_forgedSize l D h cI cZ σ a1 r5 σ6 hr5) gX9_sizeOf_X9_forgedSize rfl (by decide +kernel) rfl ⟨by decide, by decide⟩ rfl rfl rfl rfl (Nat.le_of_ble_eq_true rfl) dX9_sizeOf_14 (fun H locs hP hD hS => ?_)
    refine W.eq (g2 := F0 m 17 ls [.int r5]) rfl ?_
    exact hre _ _ _ _ _ _ hf hP hD hS dX9_sizeOf_17
def FM_ask (σ : MS) (a1 : Int32) (a2 : Int32) : Option (Int32 × MS) :=
  nm (setF σ 0 0) fun (σ1 : MS) => Option.bind (FM_isCoin σ1 a1) fun (r2 : Int32) => if r2 = 0 then (some ((-1000001), σ1)) else (Option.bind (FM_in (Int32.toInt64 a2) 0 1) fun (r4 : Int32) => if r4 = 0 then (some ((-1000001), σ1)) else (nm (setF σ1 25 0) fun (σ6 : MS) => if a2 = 0 then (bd2 (FM_sizeOf σ6 a1) fun (r10 : Int32) (σ11 : MS) => some (r10, σ11)) else (bd2 (FM_markOf σ6 a1) fun (r8 : Int32) (σ9 : MS) => some (r8, σ9))))
set_option maxHeartbeats 4000000 in
set_option maxRecDepth 100000 in
theorem kM_ask (l : Launch) (D : va_G) (h : Nat → Nat) (cI cZ : ClassId) (σ : MS) (a1 : Int32) (a2 : Int32) (r : Int32) (σ' : MS) (hf : FM_ask σ a1 a2 = some (r, σ')) : KK l D [(cI, .int), (cZ, .boolean)] yX9_ask wsX9_ask 5 110 [.ref (h 0), .int a1, .int a2] (mw h cI cZ σ) (some (.int r)) (mw h cI cZ σ') := by
  refine KK.ofI (own := RX9) (cc := cX9_ask) (maxL := 3) (by decide) rfl rfl (Nat.le_of_ble_eq_true rfl) ?_
  intro p e s m args below meth c R Q A ls S hRf hRl hK hA hP hD hS hl hret
  obtain ⟨hx, hb, hml, hown, hts⟩ := id S
  have hin : ∀ w ∈ wsX90, w ∈ wsX9_ask := fun w hw => List.mem_cons_of_mem _ (List.mem_append_right _ hw)
  have f47 := hts (.fieldLink RX9 47 "PenniesAwayModel" "thrown" "I") (by decide +kernel)
  have c67 := hts (.constant RX9 67 (-1000001)) (by decide +kernel)
  have f279 := hts (.fieldLink RX9 279 "PenniesAwayModel" "traced" "I") (by decide +kernel)
  have hl : lv_has ls 3 [(0, .ref (h 0)), (1, .int a1), (2, .int a2)] := hl
  have hre : ∀ (x : Int32) (σx : MS) (pc : Nat) (ls : Array Slot) (H : Heap) (locs : List Loc), (some (x, σx) : Option (Int32 × MS)) = some (r, σ') → va_P D vwCl (mw h cI cZ σx) H → va_D A (mw h cI cZ σx) → va_S A s.heap H locs → decode cX9_ask pc = .ok (.ireturn, 1) → W p l e R s m args below meth c H locs 0 0 Q (F0 m pc ls [.int x]) := by intro x σx pc ls H locs he; cases he; exact hret pc ls H locs
  unfold FM_ask at hf
  refine lv_aload_n hx hb dX9_ask_0 rfl (lv_at hl 0 rfl) ?_
  refine lv_iconst (v := 0) hx hb dX9_ask_1 (by decide) ?_
  refine Mp_0 S hin hK hP hD hS f47 dX9_ask_2 (fun H locs hP hD hS => ?_)
  obtain ⟨σ1, eσ1, hf⟩ := nm_some hf
  rw [← eσ1] at hP hD
  refine lv_aload_n hx hb dX9_ask_5 rfl (lv_at hl 0 rfl) ?_
  refine lv_iload_n hx hb dX9_ask_6 rfl (lv_at hl 1 rfl) ?_
  obtain ⟨r2, hr2, hf⟩ := bi_some hf
  refine kc_v (ci := 8) (q0 := 0) (n := 1) S hRf hRl hK hA hP hD hS hl [.int a1] [] (kM_isCoin l D h cI cZ σ1 a1 r2 hr2) gX9_ask_X9_isCoin rfl (by decide +kernel) rfl ⟨by decide, by decide⟩ rfl rfl rfl rfl (Nat.le_of_ble_eq_true rfl) dX9_ask_7 (fun H locs hP hD hS => ?_)
  refine W.eq (g2 := F0 m 10 ls [.int r2]) rfl ?_
  refine lv_if_eq (tgt := 23) hx hb dX9_ask_10 (by decide) (fun c3 => ?_) (fun c3 => ?_)
  · have hf := (if_pos c3).symm.trans hf
    refine lv_ldc (v := (-1000001)) hx hb hown c67 dX9_ask_23 ?_
    exact hre _ _ _ _ _ _ hf hP hD hS dX9_ask_25
  · have hf := (if_neg c3).symm.trans hf
    refine lv_iload_n hx hb dX9_ask_13 rfl (lv_at hl 2 rfl) ?_
    refine lv_i2l hx hb dX9_ask_14 rfl ?_
    refine lv_lconst (v := 0) hx hb dX9_ask_15 (by decide) ?_
    refine lv_lconst (v := 1) hx hb dX9_ask_16 (by decide) ?_
    obtain ⟨r4, hr4, hf⟩ := bi_some hf
    refine kc_s (n := 3) S hRf hRl hK hA hP hD hS hl [.long (Int32.toInt64 a2), .long 0, .long 1] [] (kM_in l D _ _ (Int32.toInt64 a2) 0 1 r4 hr4) gX9_ask_X9_in rfl (by decide +kernel) rfl ⟨by decide, by decide⟩ rfl (Nat.le_of_ble_eq_true rfl) dX9_ask_17 (fun H locs hP hD hS => ?_)
    refine W.eq (g2 := F0 m 20 ls [.int r4]) rfl ?_
    refine lv_if_ne (tgt := 26) hx hb dX9_ask_20 (by decide) (fun c5 => ?_) (fun c5 => ?_)
    · have hf := (if_neg c5).symm.trans hf
      refine lv_aload_n hx hb dX9_ask_26 rfl (lv_at hl 0 rfl) ?_
      refine lv_iconst (v := 0) hx hb dX9_ask_27 (by decide) ?_
      refine Mp_25 S hin hK hP hD hS f279 dX9_ask_28 (fun H locs hP hD hS => ?_)
      obtain ⟨σ6, eσ6, hf⟩ := nm_some hf
      rw [← eσ6] at hP hD
      refine lv_iload_n hx hb dX9_ask_31 rfl (lv_at hl 2 rfl) ?_
      refine lv_if_ne (tgt := 43) hx hb dX9_ask_32 (by decide) (fun c7 => ?_) (fun c7 => ?_)
      · have hf := (if_neg c7).symm.trans hf
        refine lv_aload_n hx hb dX9_ask_43 rfl (lv_at hl 0 rfl) ?_
        refine lv_iload_n hx hb dX9_ask_44 rfl (lv_at hl 1 rfl) ?_
        obtain ⟨r8, σ9, hr8, hf⟩ := bd2_some hf
        refine kc_v (ci := 8) (q0 := 0) (n := 1) S hRf hRl hK hA hP hD hS hl [.int a1] [] (kM_markOf l D h cI cZ σ6 a1 r8 σ9 hr8) gX9_ask_X9_markOf rfl (by decide +kernel) rfl ⟨by decide, by decide⟩ rfl rfl rfl rfl (Nat.le_of_ble_eq_true rfl) dX9_ask_45 (fun H locs hP hD hS => ?_)
        refine W.eq (g2 := F0 m 48 ls [.int r8]) rfl ?_
        exact hre _ _ _ _ _ _ hf hP hD hS dX9_ask_48
      · have hf := (if_pos c7).symm.trans hf
        refine lv_aload_n hx hb dX9_ask_35 rfl (lv_at hl 0 rfl) ?_
        refine lv_iload_n hx hb dX9_ask_36 rfl (lv_at hl 1 rfl) ?_
        obtain ⟨r10, σ11, hr10, hf⟩ := bd2_some hf
        refine kc_v (ci := 8) (q0 := 0) (n := 1) S hRf hRl hK hA hP hD hS hl [.int a1] [] (kM_sizeOf l D h cI cZ σ6 a1 r10 σ11 hr10) gX9_ask_X9_sizeOf rfl (by decide +kernel) rfl ⟨by decide, by decide⟩ rfl rfl rfl rfl (Nat.le_of_ble_eq_true rfl) dX9_ask_37 (fun H locs hP hD hS => ?_)
        refine W.eq (g2 := F0 m 40 ls [.int r10]) rfl ?_
        refine lv_goto (tgt := 48) hx hb dX9_ask_40 (by decide) ?_
        exact hre _ _ _ _ _ _ hf hP hD hS dX9_ask_48
    · have hf := (if_pos c5).symm.trans hf
      refine lv_ldc (v := (-1000001)) hx hb hown c67 dX9_ask_23 ?_
      exact hre _ _ _ _ _ _ hf hP hD hS dX9_ask_25
def FM_trace (σ : MS) (a1 : Int32) : Option (Int32 × MS) :=
  nm (setF σ 0 0) fun (σ1 : MS) => Option.bind (FM_in (Int32.toInt64 a1) 0 (Int32.toInt64 ((σ1.1 25) - 1))) fun (r2 : Int32) => if r2 = 0 then (some ((-1000000), σ1)) else (gd (¬ ((a1 : Int32) < 0 ∨ 16 ≤ Int32.toNatClampNeg a1)) (some ((σ1.2 24 (Int32.toNatClampNeg a1)), σ1)))
set_option maxHeartbeats 4000000 in
set_option maxRecDepth 100000 in
theorem kM_trace (l : Launch) (D : va_G) (h : Nat → Nat) (cI cZ : ClassId) (σ : MS) (a1 : Int32) (r : Int32) (σ' : MS) (hf : FM_trace σ a1 = some (r, σ')) : KK l D [(cI, .int), (cZ, .boolean)] yX9_trace wsX9_trace 1 25 [.ref (h 0), .int a1] (mw h cI cZ σ) (some (.int r)) (mw h cI cZ σ') := by
  refine KK.ofI (own := RX9) (cc := cX9_trace) (maxL := 2) (by decide) rfl rfl (Nat.le_of_ble_eq_true rfl) ?_
  intro p e s m args below meth c R Q A ls S hRf hRl hK hA hP hD hS hl hret
  obtain ⟨hx, hb, hml, hown, hts⟩ := id S
  have hin : ∀ w ∈ wsX90, w ∈ wsX9_trace := fun w hw => List.mem_cons_of_mem _ (List.mem_append_right _ hw)
  have f47 := hts (.fieldLink RX9 47 "PenniesAwayModel" "thrown" "I") (by decide +kernel)
  have f279 := hts (.fieldLink RX9 279 "PenniesAwayModel" "traced" "I") (by decide +kernel)
  have c83 := hts (.constant RX9 83 (-1000000)) (by decide +kernel)
  have f44 := hts (.fieldLink RX9 44 "PenniesAwayModel" "trace" "[I") (by decide +kernel)
  have hl : lv_has ls 2 [(0, .ref (h 0)), (1, .int a1)] := hl
  have hre : ∀ (x : Int32) (σx : MS) (pc : Nat) (ls : Array Slot) (H : Heap) (locs : List Loc), (some (x, σx) : Option (Int32 × MS)) = some (r, σ') → va_P D vwCl (mw h cI cZ σx) H → va_D A (mw h cI cZ σx) → va_S A s.heap H locs → decode cX9_trace pc = .ok (.ireturn, 1) → W p l e R s m args below meth c H locs 0 0 Q (F0 m pc ls [.int x]) := by intro x σx pc ls H locs he; cases he; exact hret pc ls H locs
  unfold FM_trace at hf
  refine lv_aload_n hx hb dX9_trace_0 rfl (lv_at hl 0 rfl) ?_
  refine lv_iconst (v := 0) hx hb dX9_trace_1 (by decide) ?_
  refine Mp_0 S hin hK hP hD hS f47 dX9_trace_2 (fun H locs hP hD hS => ?_)
  obtain ⟨σ1, eσ1, hf⟩ := nm_some hf
  rw [← eσ1] at hP hD
  refine lv_iload_n hx hb dX9_trace_5 rfl (lv_at hl 1 rfl) ?_
  refine lv_i2l hx hb dX9_trace_6 rfl ?_
  refine lv_lconst (v := 0) hx hb dX9_trace_7 (by decide) ?_
  refine lv_aload_n hx hb dX9_trace_8 rfl (lv_at hl 0 rfl) ?_
  refine Mg_25 S hin hK hP f279 dX9_trace_9 ?_
  refine lv_iconst (v := 1) hx hb dX9_trace_12 (by decide) ?_
  refine lv_isub hx hb dX9_trace_13 ?_
  refine lv_i2l hx hb dX9_trace_14 rfl ?_
  obtain ⟨r2, hr2, hf⟩ := bi_some hf
  refine kc_s (n := 3) S hRf hRl hK hA hP hD hS hl [.long (Int32.toInt64 a1), .long 0, .long (Int32.toInt64 ((σ1.1 25) - 1))] [] (kM_in l D _ _ (Int32.toInt64 a1) 0 (Int32.toInt64 ((σ1.1 25) - 1)) r2 hr2) gX9_trace_X9_in rfl (by decide +kernel) rfl ⟨by decide, by decide⟩ rfl (Nat.le_of_ble_eq_true rfl) dX9_trace_15 (fun H locs hP hD hS => ?_)
  refine W.eq (g2 := F0 m 18 ls [.int r2]) rfl ?_
  refine lv_if_eq (tgt := 30) hx hb dX9_trace_18 (by decide) (fun c3 => ?_) (fun c3 => ?_)
  · have hf := (if_pos c3).symm.trans hf
    refine lv_ldc (v := (-1000000)) hx hb hown c83 dX9_trace_30 ?_
    exact hre _ _ _ _ _ _ hf hP hD hS dX9_trace_32
  · have hf := (if_neg c3).symm.trans hf
    refine lv_aload_n hx hb dX9_trace_21 rfl (lv_at hl 0 rfl) ?_
    refine Mg_24 S hin hK hP f44 dX9_trace_22 ?_
    refine lv_iload_n hx hb dX9_trace_25 rfl (lv_at hl 1 rfl) ?_
    obtain ⟨g4, hf⟩ := gd_some hf
    refine Ml_24 S hK hP g4 dX9_trace_26 ?_
    refine lv_goto (tgt := 32) hx hb dX9_trace_27 (by decide) ?_
    exact hre _ _ _ _ _ _ hf hP hD hS dX9_trace_32
def FM_count_79 (ag58 : MS → Int32 → Int32 → Option (Int32 × MS)) (σ : MS) (l3 : Int32) (s0 : Int32) (s1 : Int32) : Option (Int32 × MS) :=
  nm (s1 + s0) fun (x17 : Int32) => nm (l3 + 1) fun (x18 : Int32) => ag58 σ x17 x18
def FM_count_58  : Nat → MS → Int32 → Int32 → Option (Int32 × MS)
  | 0, _, _, _ => none
  | n + 1, σ, l2, l3 => if 8 ≤ l3 then (some (l2, σ)) else (gd (¬ ((l3 : Int32) < 0 ∨ 8 ≤ Int32.toNatClampNeg l3)) (if (σ.2 2 (Int32.toNatClampNeg l3)) < 0 then (FM_count_79 (FM_count_58 n) σ l3 0 l2) else (FM_count_79 (FM_count_58 n) σ l3 1 l2)))
def FM_count_157 (ag117 : MS → Int32 → Int32 → Int32 → Option (Int32 × MS)) (σ : MS) (l1 : Int32) (l3 : Int32) (s0 : Int32) (s1 : Int32) : Option (Int32 × MS) :=
  nm (s1 + s0) fun (x12 : Int32) => nm (l3 + 1) fun (x13 : Int32) => ag117 σ l1 x12 x13
def FM_count_117  : Nat → MS → Int32 → Int32 → Int32 → Option (Int32 × MS)
  | 0, _, _, _, _ => none
  | n + 1, σ, l1, l2, l3 => gd (¬ ((3 : Int32) < 0 ∨ 147 ≤ Int32.toNatClampNeg 3)) (if (σ.2 5 (Int32.toNatClampNeg 3)) ≤ l3 then (some (l2, σ)) else (if l1 = 5 then (Option.bind (FM_of σ l3 5) fun (r11 : Int32) => FM_count_157 (FM_count_117 n) σ l1 l3 r11 l2) else (Option.bind (FM_of σ l3 3) fun (r9 : Int32) => if r9 = 3 then (FM_count_157 (FM_count_117 n) σ l1 l3 1 l2) else (FM_count_157 (FM_count_117 n) σ l1 l3 0 l2))))
def FM_count (σ : MS) (a1 : Int32) : Option (Int32 × MS) :=
  nm (setF σ 0 0) fun (σ1 : MS) => if Int32.toInt a1 < 0 ∨ 7 < Int32.toInt a1 then (some ((-1000001), σ1)) else (if a1 = 0 then (FM_count_58 fuelN σ1 0 0) else (if a1 = 1 then (gd (¬ ((2 : Int32) < 0 ∨ 147 ≤ Int32.toNatClampNeg 2)) (some ((σ1.2 5 (Int32.toNatClampNeg 2)), σ1))) else (if a1 = 2 then (gd (¬ ((3 : Int32) < 0 ∨ 147 ≤ Int32.toNatClampNeg 3)) (some ((σ1.2 5 (Int32.toNatClampNeg 3)), σ1))) else (if a1 = 3 then (gd (¬ ((4 : Int32) < 0 ∨ 147 ≤ Int32.toNatClampNeg 4)) (some ((σ1.2 5 (Int32.toNatClampNeg 4)), σ1))) else (if a1 = 4 then (some ((σ1.1 9), σ1)) else (if a1 = 5 then (FM_count_117 fuelN σ1 a1 0 0) else (if a1 = 6 then (FM_count_117 fuelN σ1 a1 0 0) else (if a1 = 7 then (some ((σ1.1 11), σ1)) else (none)))))))))
set_option maxHeartbeats 4000000 in
set_option maxRecDepth 100000 in
theorem kM_count (l : Launch) (D : va_G) (h : Nat → Nat) (cI cZ : ClassId) (σ : MS) (a1 : Int32) (r : Int32) (σ' : MS) (hf : FM_count σ a1 = some (r, σ')) : KK l D [(cI, .int), (cZ, .boolean)] yX9_count wsX9_count 1 22 [.ref (h 0), .int a1] (mw h cI cZ σ) (some (.int r)) (mw h cI cZ σ') := by
  refine KK.ofI (own := RX9) (cc := cX9_count) (maxL := 4) (by decide) rfl rfl (Nat.le_of_ble_eq_true rfl) ?_
  intro p e s m args below meth c R Q A ls S hRf hRl hK hA hP hD hS hl hret
  obtain ⟨hx, hb, hml, hown, hts⟩ := id S
  have hin : ∀ w ∈ wsX90, w ∈ wsX9_count := fun w hw => List.mem_cons_of_mem _ (List.mem_append_right _ hw)
  have f47 := hts (.fieldLink RX9 47 "PenniesAwayModel" "thrown" "I") (by decide +kernel)
  have c67 := hts (.constant RX9 67 (-1000001)) (by decide +kernel)
  have f74 := hts (.fieldLink RX9 74 "PenniesAwayModel" "taped" "I") (by decide +kernel)
  have f183 := hts (.fieldLink RX9 183 "PenniesAwayModel" "acts" "I") (by decide +kernel)
  have f19 := hts (.fieldLink RX9 19 "PenniesAwayModel" "realm" "[I") (by decide +kernel)
  have f7 := hts (.fieldLink RX9 7 "PenniesAwayModel" "lane" "[I") (by decide +kernel)
  have hl : lv_has ls 4 [(0, .ref (h 0)), (1, .int a1)] := hl
  have hre : ∀ (x : Int32) (σx : MS) (pc : Nat) (ls : Array Slot) (H : Heap) (locs : List Loc), (some (x, σx) : Option (Int32 × MS)) = some (r, σ') → va_P D vwCl (mw h cI cZ σx) H → va_D A (mw h cI cZ σx) → va_S A s.heap H locs → decode cX9_count pc = .ok (.ireturn, 1) → W p l e R s m args below meth c H locs 0 0 Q (F0 m pc ls [.int x]) := by intro x σx pc ls H locs he; cases he; exact hret pc ls H locs
  have b79 : ∀ (ag58 : MS → Int32 → Int32 → Option (Int32 × MS)) (hag58 : ∀ (σ : MS) (l2 : Int32) (l3 : Int32) (ls : Array Slot) (H : Heap) (locs : List Loc), ag58 σ l2 l3 = some (r, σ') → lv_has ls 4 [(0, .ref (h 0)), (2, .int l2), (3, .int l3)] → va_P D vwCl (mw h cI cZ σ) H → va_D A (mw h cI cZ σ) → va_S A s.heap H locs → W p l e R s m args below meth c H locs 0 0 Q (F0 m 58 ls [])), ∀ (σ : MS) (l3 : Int32) (s0 : Int32) (s1 : Int32) (ls : Array Slot) (H : Heap) (locs : List Loc), FM_count_79 ag58 σ l3 s0 s1 = some (r, σ') → lv_has ls 4 [(0, .ref (h 0)), (3, .int l3)] → va_P D vwCl (mw h cI cZ σ) H → va_D A (mw h cI cZ σ) → va_S A s.heap H locs → W p l e R s m args below meth c H locs 0 0 Q (F0 m 79 ls [.int s0, .int s1]) := by
    intro ag58 hag58 σ l3 s0 s1 ls H locs hf hl hP hD hS
    unfold FM_count_79 at hf
    refine lv_iadd hx hb dX9_count_79 ?_
    refine lv_topi (fun x17 ex17 => ?_)
    have hf := nm_at ex17 hf
    refine lv_istore_n (lv' := [(2, .int x17), (0, .ref (h 0)), (3, .int l3)]) hx hb dX9_count_80 rfl hl (by decide) rfl (fun ls hl => ?_)
    obtain ⟨x18, ex18, hf⟩ := nm_some hf
    refine lv_iinc (v := x18) (lv' := [(3, .int x18), (2, .int x17), (0, .ref (h 0))]) hx hb dX9_count_81 hl (k := 2) rfl (by rw [ex18]; rfl) (by decide) rfl (fun ls hl => ?_)
    refine lv_goto (tgt := 58) hx hb dX9_count_84 (by decide) ?_
    exact hag58 _ _ _ _ _ _ hf (lv_sub hl [2, 1, 0] rfl) hP hD hS
  have b58 : ∀ (n : Nat), ∀ (σ : MS) (l2 : Int32) (l3 : Int32) (ls : Array Slot) (H : Heap) (locs : List Loc), FM_count_58 n σ l2 l3 = some (r, σ') → lv_has ls 4 [(0, .ref (h 0)), (2, .int l2), (3, .int l3)] → va_P D vwCl (mw h cI cZ σ) H → va_D A (mw h cI cZ σ) → va_S A s.heap H locs → W p l e R s m args below meth c H locs 0 0 Q (F0 m 58 ls []) := by
    intro n
    induction n with
    | zero => intro σ l2 l3 ls H locs hf; exact absurd hf (by simp [FM_count_58])
    | succ n ih =>
      intro σ l2 l3 ls H locs hf hl hP hD hS
      rw [FM_count_58] at hf
      refine lv_iload_n hx hb dX9_count_58 rfl (lv_at hl 2 rfl) ?_
      refine lv_bipush (v := 8) hx hb dX9_count_59 (by decide) ?_
      refine lv_icmp_ge (tgt := 87) hx hb dX9_count_61 (by decide) (fun c14 => ?_) (fun c14 => ?_)
      · have hf := (if_pos c14).symm.trans hf
        refine lv_iload_n hx hb dX9_count_87 rfl (lv_at hl 1 rfl) ?_
        exact hre _ _ _ _ _ _ hf hP hD hS dX9_count_88
      · have hf := (if_neg c14).symm.trans hf
        refine lv_iload_n hx hb dX9_count_64 rfl (lv_at hl 1 rfl) ?_
        refine lv_aload_n hx hb dX9_count_65 rfl (lv_at hl 0 rfl) ?_
        refine Mg_2 S hin hK hP f7 dX9_count_66 ?_
        refine lv_iload_n hx hb dX9_count_69 rfl (lv_at hl 2 rfl) ?_
        obtain ⟨g15, hf⟩ := gd_some hf
        refine Ml_2 S hK hP g15 dX9_count_70 ?_
        refine lv_if_lt (tgt := 78) hx hb dX9_count_71 (by decide) (fun c16 => ?_) (fun c16 => ?_)
        · have hf := (if_pos c16).symm.trans hf
          refine lv_iconst (v := 0) hx hb dX9_count_78 (by decide) ?_
          exact b79 (FM_count_58 n) ih _ _ _ _ _ _ _ hf (lv_sub hl [0, 2] rfl) hP hD hS
        · have hf := (if_neg c16).symm.trans hf
          refine lv_iconst (v := 1) hx hb dX9_count_74 (by decide) ?_
          refine lv_goto (tgt := 79) hx hb dX9_count_75 (by decide) ?_
          exact b79 (FM_count_58 n) ih _ _ _ _ _ _ _ hf (lv_sub hl [0, 2] rfl) hP hD hS
  have b157 : ∀ (ag117 : MS → Int32 → Int32 → Int32 → Option (Int32 × MS)) (hag117 : ∀ (σ : MS) (l1 : Int32) (l2 : Int32) (l3 : Int32) (ls : Array Slot) (H : Heap) (locs : List Loc), ag117 σ l1 l2 l3 = some (r, σ') → lv_has ls 4 [(0, .ref (h 0)), (1, .int l1), (2, .int l2), (3, .int l3)] → va_P D vwCl (mw h cI cZ σ) H → va_D A (mw h cI cZ σ) → va_S A s.heap H locs → W p l e R s m args below meth c H locs 0 0 Q (F0 m 117 ls [])), ∀ (σ : MS) (l1 : Int32) (l3 : Int32) (s0 : Int32) (s1 : Int32) (ls : Array Slot) (H : Heap) (locs : List Loc), FM_count_157 ag117 σ l1 l3 s0 s1 = some (r, σ') → lv_has ls 4 [(0, .ref (h 0)), (1, .int l1), (3, .int l3)] → va_P D vwCl (mw h cI cZ σ) H → va_D A (mw h cI cZ σ) → va_S A s.heap H locs → W p l e R s m args below meth c H locs 0 0 Q (F0 m 157 ls [.int s0, .int s1]) := by
    intro ag117 hag117 σ l1 l3 s0 s1 ls H locs hf hl hP hD hS
    unfold FM_count_157 at hf
    refine lv_iadd hx hb dX9_count_157 ?_
    refine lv_topi (fun x12 ex12 => ?_)
    have hf := nm_at ex12 hf
    refine lv_istore_n (lv' := [(2, .int x12), (0, .ref (h 0)), (1, .int l1), (3, .int l3)]) hx hb dX9_count_158 rfl hl (by decide) rfl (fun ls hl => ?_)
    obtain ⟨x13, ex13, hf⟩ := nm_some hf
    refine lv_iinc (v := x13) (lv' := [(3, .int x13), (2, .int x12), (0, .ref (h 0)), (1, .int l1)]) hx hb dX9_count_159 hl (k := 3) rfl (by rw [ex13]; rfl) (by decide) rfl (fun ls hl => ?_)
    refine lv_goto (tgt := 117) hx hb dX9_count_162 (by decide) ?_
    exact hag117 _ _ _ _ _ _ _ hf (lv_sub hl [2, 3, 1, 0] rfl) hP hD hS
  have b117 : ∀ (n : Nat), ∀ (σ : MS) (l1 : Int32) (l2 : Int32) (l3 : Int32) (ls : Array Slot) (H : Heap) (locs : List Loc), FM_count_117 n σ l1 l2 l3 = some (r, σ') → lv_has ls 4 [(0, .ref (h 0)), (1, .int l1), (2, .int l2), (3, .int l3)] → va_P D vwCl (mw h cI cZ σ) H → va_D A (mw h cI cZ σ) → va_S A s.heap H locs → W p l e R s m args below meth c H locs 0 0 Q (F0 m 117 ls []) := by
    intro n
    induction n with
    | zero => intro σ l1 l2 l3 ls H locs hf; exact absurd hf (by simp [FM_count_117])
    | succ n ih =>
      intro σ l1 l2 l3 ls H locs hf hl hP hD hS
      rw [FM_count_117] at hf
      refine lv_iload_n hx hb dX9_count_117 rfl (lv_at hl 3 rfl) ?_
      refine lv_aload_n hx hb dX9_count_118 rfl (lv_at hl 0 rfl) ?_
      refine Mg_5 S hin hK hP f19 dX9_count_119 ?_
      refine lv_iconst (v := 3) hx hb dX9_count_122 (by decide) ?_
      obtain ⟨g6, hf⟩ := gd_some hf
      refine Ml_5 S hK hP g6 dX9_count_123 ?_
      refine lv_icmp_ge (tgt := 165) hx hb dX9_count_124 (by decide) (fun c7 => ?_) (fun c7 => ?_)
      · have hf := (if_pos c7).symm.trans hf
        refine lv_iload_n hx hb dX9_count_165 rfl (lv_at hl 2 rfl) ?_
        exact hre _ _ _ _ _ _ hf hP hD hS dX9_count_166
      · have hf := (if_neg c7).symm.trans hf
        refine lv_iload_n hx hb dX9_count_127 rfl (lv_at hl 2 rfl) ?_
        refine lv_iload_n hx hb dX9_count_128 rfl (lv_at hl 1 rfl) ?_
        refine lv_iconst (v := 5) hx hb dX9_count_129 (by decide) ?_
        refine lv_icmp_ne (tgt := 142) hx hb dX9_count_130 (by decide) (fun c8 => ?_) (fun c8 => ?_)
        · have hf := (if_neg c8).symm.trans hf
          refine lv_aload_n hx hb dX9_count_142 rfl (lv_at hl 0 rfl) ?_
          refine lv_iload_n hx hb dX9_count_143 rfl (lv_at hl 3 rfl) ?_
          refine lv_iconst (v := 3) hx hb dX9_count_144 (by decide) ?_
          obtain ⟨r9, hr9, hf⟩ := bi_some hf
          refine kc_v (ci := 8) (q0 := 0) (n := 2) S hRf hRl hK hA hP hD hS hl [.int l3, .int 3] [.int l2] (kM_of l D h cI cZ σ l3 3 r9 hr9) gX9_count_X9_of rfl (by decide +kernel) rfl ⟨by decide, by decide⟩ rfl rfl rfl rfl (Nat.le_of_ble_eq_true rfl) dX9_count_145 (fun H locs hP hD hS => ?_)
          refine W.eq (g2 := F0 m 148 ls [.int r9, .int l2]) rfl ?_
          refine lv_iconst (v := 3) hx hb dX9_count_148 (by decide) ?_
          refine lv_icmp_ne (tgt := 156) hx hb dX9_count_149 (by decide) (fun c10 => ?_) (fun c10 => ?_)
          · have hf := (if_neg c10).symm.trans hf
            refine lv_iconst (v := 0) hx hb dX9_count_156 (by decide) ?_
            exact b157 (FM_count_117 n) ih _ _ _ _ _ _ _ _ hf (lv_sub hl [0, 1, 3] rfl) hP hD hS
          · have hf := (if_pos c10).symm.trans hf
            refine lv_iconst (v := 1) hx hb dX9_count_152 (by decide) ?_
            refine lv_goto (tgt := 157) hx hb dX9_count_153 (by decide) ?_
            exact b157 (FM_count_117 n) ih _ _ _ _ _ _ _ _ hf (lv_sub hl [0, 1, 3] rfl) hP hD hS
        · have hf := (if_pos c8).symm.trans hf
          refine lv_aload_n hx hb dX9_count_133 rfl (lv_at hl 0 rfl) ?_
          refine lv_iload_n hx hb dX9_count_134 rfl (lv_at hl 3 rfl) ?_
          refine lv_iconst (v := 5) hx hb dX9_count_135 (by decide) ?_
          obtain ⟨r11, hr11, hf⟩ := bi_some hf
          refine kc_v (ci := 8) (q0 := 0) (n := 2) S hRf hRl hK hA hP hD hS hl [.int l3, .int 5] [.int l2] (kM_of l D h cI cZ σ l3 5 r11 hr11) gX9_count_X9_of rfl (by decide +kernel) rfl ⟨by decide, by decide⟩ rfl rfl rfl rfl (Nat.le_of_ble_eq_true rfl) dX9_count_136 (fun H locs hP hD hS => ?_)
          refine W.eq (g2 := F0 m 139 ls [.int r11, .int l2]) rfl ?_
          refine lv_goto (tgt := 157) hx hb dX9_count_139 (by decide) ?_
          exact b157 (FM_count_117 n) ih _ _ _ _ _ _ _ _ hf (lv_sub hl [0, 1, 3] rfl) hP hD hS
  unfold FM_count at hf
  refine lv_aload_n hx hb dX9_count_0 rfl (lv_at hl 0 rfl) ?_
  refine lv_iconst (v := 0) hx hb dX9_count_1 (by decide) ?_
  refine Mp_0 S hin hK hP hD hS f47 dX9_count_2 (fun H locs hP hD hS => ?_)
  obtain ⟨σ1, eσ1, hf⟩ := nm_some hf
  rw [← eσ1] at hP hD
  refine lv_iconst (v := 0) hx hb dX9_count_5 (by decide) ?_
  refine lv_istore_n (lv' := [(2, .int 0), (0, .ref (h 0)), (1, .int a1)]) hx hb dX9_count_6 rfl hl (by decide) rfl (fun ls hl => ?_)
  refine lv_iload_n hx hb dX9_count_7 rfl (lv_at hl 2 rfl) ?_
  by_cases c2 : Int32.toInt a1 < 0 ∨ 7 < Int32.toInt a1
  · have hf := (if_pos c2).symm.trans hf
    refine lv_tableOut (tgt := 172) hx hb dX9_count_8 c2 (by decide) ?_
    refine lv_ldc (v := (-1000001)) hx hb hown c67 dX9_count_172 ?_
    exact hre _ _ _ _ _ _ hf hP hD hS dX9_count_174
  · have hf := (if_neg c2).symm.trans hf
    by_cases c2k0 : a1 = 0
    · have hf := (if_pos c2k0).symm.trans hf
      refine lv_tableIn (tgt := 56) hx hb dX9_count_8 (by rw [c2k0]; decide) (by rw [c2k0]; decide) (by rw [c2k0]; rfl) (by decide) ?_
      refine lv_iconst (v := 0) hx hb dX9_count_56 (by decide) ?_
      refine lv_istore_n (lv' := [(3, .int 0), (2, .int 0), (0, .ref (h 0)), (1, .int a1)]) hx hb dX9_count_57 rfl hl (by decide) rfl (fun ls hl => ?_)
      exact b58 fuelN _ _ _ _ _ _ hf (lv_sub hl [2, 1, 0] rfl) hP hD hS
    · have hf := (if_neg c2k0).symm.trans hf
      by_cases c2k1 : a1 = 1
      · have hf := (if_pos c2k1).symm.trans hf
        refine lv_tableIn (tgt := 89) hx hb dX9_count_8 (by rw [c2k1]; decide) (by rw [c2k1]; decide) (by rw [c2k1]; rfl) (by decide) ?_
        refine lv_aload_n hx hb dX9_count_89 rfl (lv_at hl 1 rfl) ?_
        refine Mg_5 S hin hK hP f19 dX9_count_90 ?_
        refine lv_iconst (v := 2) hx hb dX9_count_93 (by decide) ?_
        obtain ⟨g5, hf⟩ := gd_some hf
        refine Ml_5 S hK hP g5 dX9_count_94 ?_
        exact hre _ _ _ _ _ _ hf hP hD hS dX9_count_95
      · have hf := (if_neg c2k1).symm.trans hf
        by_cases c2k2 : a1 = 2
        · have hf := (if_pos c2k2).symm.trans hf
          refine lv_tableIn (tgt := 96) hx hb dX9_count_8 (by rw [c2k2]; decide) (by rw [c2k2]; decide) (by rw [c2k2]; rfl) (by decide) ?_
          refine lv_aload_n hx hb dX9_count_96 rfl (lv_at hl 1 rfl) ?_
          refine Mg_5 S hin hK hP f19 dX9_count_97 ?_
          refine lv_iconst (v := 3) hx hb dX9_count_100 (by decide) ?_
          obtain ⟨g4, hf⟩ := gd_some hf
          refine Ml_5 S hK hP g4 dX9_count_101 ?_
          exact hre _ _ _ _ _ _ hf hP hD hS dX9_count_102
        · have hf := (if_neg c2k2).symm.trans hf
          by_cases c2k3 : a1 = 3
          · have hf := (if_pos c2k3).symm.trans hf
            refine lv_tableIn (tgt := 103) hx hb dX9_count_8 (by rw [c2k3]; decide) (by rw [c2k3]; decide) (by rw [c2k3]; rfl) (by decide) ?_
            refine lv_aload_n hx hb dX9_count_103 rfl (lv_at hl 1 rfl) ?_
            refine Mg_5 S hin hK hP f19 dX9_count_104 ?_
            refine lv_iconst (v := 4) hx hb dX9_count_107 (by decide) ?_
            obtain ⟨g3, hf⟩ := gd_some hf
            refine Ml_5 S hK hP g3 dX9_count_108 ?_
            exact hre _ _ _ _ _ _ hf hP hD hS dX9_count_109
          · have hf := (if_neg c2k3).symm.trans hf
            by_cases c2k4 : a1 = 4
            · have hf := (if_pos c2k4).symm.trans hf
              refine lv_tableIn (tgt := 110) hx hb dX9_count_8 (by rw [c2k4]; decide) (by rw [c2k4]; decide) (by rw [c2k4]; rfl) (by decide) ?_
              refine lv_aload_n hx hb dX9_count_110 rfl (lv_at hl 1 rfl) ?_
              refine Mg_9 S hin hK hP f183 dX9_count_111 ?_
              exact hre _ _ _ _ _ _ hf hP hD hS dX9_count_114
            · have hf := (if_neg c2k4).symm.trans hf
              by_cases c2k5 : a1 = 5
              · have hf := (if_pos c2k5).symm.trans hf
                refine lv_tableIn (tgt := 115) hx hb dX9_count_8 (by rw [c2k5]; decide) (by rw [c2k5]; decide) (by rw [c2k5]; rfl) (by decide) ?_
                refine lv_iconst (v := 0) hx hb dX9_count_115 (by decide) ?_
                refine lv_istore_n (lv' := [(3, .int 0), (2, .int 0), (0, .ref (h 0)), (1, .int a1)]) hx hb dX9_count_116 rfl hl (by decide) rfl (fun ls hl => ?_)
                exact b117 fuelN _ _ _ _ _ _ _ hf (lv_sub hl [2, 3, 1, 0] rfl) hP hD hS
              · have hf := (if_neg c2k5).symm.trans hf
                by_cases c2k6 : a1 = 6
                · have hf := (if_pos c2k6).symm.trans hf
                  refine lv_tableIn (tgt := 115) hx hb dX9_count_8 (by rw [c2k6]; decide) (by rw [c2k6]; decide) (by rw [c2k6]; rfl) (by decide) ?_
                  refine lv_iconst (v := 0) hx hb dX9_count_115 (by decide) ?_
                  refine lv_istore_n (lv' := [(3, .int 0), (2, .int 0), (0, .ref (h 0)), (1, .int a1)]) hx hb dX9_count_116 rfl hl (by decide) rfl (fun ls hl => ?_)
                  exact b117 fuelN _ _ _ _ _ _ _ hf (lv_sub hl [2, 3, 1, 0] rfl) hP hD hS
                · have hf := (if_neg c2k6).symm.trans hf
                  by_cases c2k7 : a1 = 7
                  · have hf := (if_pos c2k7).symm.trans hf
                    refine lv_tableIn (tgt := 167) hx hb dX9_count_8 (by rw [c2k7]; decide) (by rw [c2k7]; decide) (by rw [c2k7]; rfl) (by decide) ?_
                    refine lv_aload_n hx hb dX9_count_167 rfl (lv_at hl 1 rfl) ?_
                    refine Mg_11 S hin hK hP f74 dX9_count_168 ?_
                    exact hre _ _ _ _ _ _ hf hP hD hS dX9_count_171
                  · have hf := (if_neg c2k7).symm.trans hf
                    exact absurd hf (by simp)
def FM_status (σ : MS) : Option (Int32 × MS) :=
  nm (setF σ 0 0) fun (σ1 : MS) => some ((σ1.1 1), σ1)
set_option maxHeartbeats 4000000 in
set_option maxRecDepth 100000 in
theorem kM_status (l : Launch) (D : va_G) (h : Nat → Nat) (cI cZ : ClassId) (σ : MS) (r : Int32) (σ' : MS) (hf : FM_status σ = some (r, σ')) : KK l D [(cI, .int), (cZ, .boolean)] yX9_status wsX9_status 0 0 [.ref (h 0)] (mw h cI cZ σ) (some (.int r)) (mw h cI cZ σ') := by
  refine KK.ofI (own := RX9) (cc := cX9_status) (maxL := 1) (by decide) rfl rfl (Nat.le_of_ble_eq_true rfl) ?_
  intro p e s m args below meth c R Q A ls S hRf hRl hK hA hP hD hS hl hret
  obtain ⟨hx, hb, hml, hown, hts⟩ := id S
  have hin : ∀ w ∈ wsX90, w ∈ wsX9_status := fun w hw => List.mem_cons_of_mem _ (List.mem_append_right _ hw)
  have f47 := hts (.fieldLink RX9 47 "PenniesAwayModel" "thrown" "I") (by decide +kernel)
  have f51 := hts (.fieldLink RX9 51 "PenniesAwayModel" "status" "I") (by decide +kernel)
  have hl : lv_has ls 1 [(0, .ref (h 0))] := hl
  have hre : ∀ (x : Int32) (σx : MS) (pc : Nat) (ls : Array Slot) (H : Heap) (locs : List Loc), (some (x, σx) : Option (Int32 × MS)) = some (r, σ') → va_P D vwCl (mw h cI cZ σx) H → va_D A (mw h cI cZ σx) → va_S A s.heap H locs → decode cX9_status pc = .ok (.ireturn, 1) → W p l e R s m args below meth c H locs 0 0 Q (F0 m pc ls [.int x]) := by intro x σx pc ls H locs he; cases he; exact hret pc ls H locs
  unfold FM_status at hf
  refine lv_aload_n hx hb dX9_status_0 rfl (lv_at hl 0 rfl) ?_
  refine lv_iconst (v := 0) hx hb dX9_status_1 (by decide) ?_
  refine Mp_0 S hin hK hP hD hS f47 dX9_status_2 (fun H locs hP hD hS => ?_)
  obtain ⟨σ1, eσ1, hf⟩ := nm_some hf
  rw [← eσ1] at hP hD
  refine lv_aload_n hx hb dX9_status_5 rfl (lv_at hl 0 rfl) ?_
  refine Mg_1 S hin hK hP f51 dX9_status_6 ?_
  exact hre _ _ _ _ _ _ hf hP hD hS dX9_status_9
