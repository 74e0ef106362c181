def FM_isCoin (σ : MS) (a1 : Int32) : Option Int32 :=
  gd (¬ ((3 : Int32) < 0 ∨ 147 ≤ Int32.toNatClampNeg 3)) (Option.bind (FM_in (Int32.toInt64 a1) 0 (Int32.toInt64 ((σ.2 5 (Int32.toNatClampNeg 3)) - 1))) fun (r2 : Int32) => gd (r2 = 0 ∨ r2 = 1) (some r2))
set_option maxHeartbeats 4000000 in
set_option maxRecDepth 100000 in
theorem kM_isCoin (l : Launch) (D : va_G) (h : Nat → Nat) (cI cZ : ClassId) (σ : MS) (a1 : Int32) (r : Int32) (hf : FM_isCoin σ a1 = some r) : KK l D [(cI, .int), (cZ, .boolean)] yX9_isCoin wsX9_isCoin 1 25 [.ref (h 0), .int a1] (mw h cI cZ σ) (some (.int r)) (mw h cI cZ σ) := by
  refine KK.ofZ (own := RX9) (cc := cX9_isCoin) (maxL := 2) (by decide) rfl rfl (Nat.le_of_ble_eq_true rfl) ?_
  intro p e s m args below meth c R Q A ls S hRf hRl hK hA hP hD hS hl hret
  obtain ⟨hx, hb, hml, hown, hts⟩ := id S
  have hin : ∀ w ∈ wsX90, w ∈ wsX9_isCoin := fun w hw => List.mem_cons_of_mem _ (List.mem_append_right _ hw)
  have f19 := hts (.fieldLink RX9 19 "PenniesAwayModel" "realm" "[I") (by decide +kernel)
  have hl : lv_has ls 2 [(0, .ref (h 0)), (1, .int a1)] := hl
  have hre : ∀ (x : Int32) (pc : Nat) (ls : Array Slot) (H : Heap) (locs : List Loc), (some x : Option Int32) = some r → va_P D vwCl (mw h cI cZ σ) H → va_D A (mw h cI cZ σ) → va_S A s.heap H locs → decode cX9_isCoin pc = .ok (.ireturn, 1) → narrow .boolean (.int x) = .int x → W p l e R s m args below meth c H locs 0 0 Q (F0 m pc ls [.int x]) := by intro x pc ls H locs he; cases he; exact hret pc ls H locs
  unfold FM_isCoin at hf
  refine lv_iload_n hx hb dX9_isCoin_0 rfl (lv_at hl 1 rfl) ?_
  refine lv_i2l hx hb dX9_isCoin_1 rfl ?_
  refine lv_lconst (v := 0) hx hb dX9_isCoin_2 (by decide) ?_
  refine lv_aload_n hx hb dX9_isCoin_3 rfl (lv_at hl 0 rfl) ?_
  refine Mg_5 S hin hK hP f19 dX9_isCoin_4 ?_
  refine lv_iconst (v := 3) hx hb dX9_isCoin_7 (by decide) ?_
  obtain ⟨g1, hf⟩ := gd_some hf
  refine Ml_5 S hK hP g1 dX9_isCoin_8 ?_
  refine lv_iconst (v := 1) hx hb dX9_isCoin_9 (by decide) ?_
  refine lv_isub hx hb dX9_isCoin_10 ?_
  refine lv_i2l hx hb dX9_isCoin_11 rfl ?_
  obtain ⟨r2, hr2, hf⟩ := bi_some hf
  refine kc_s (n := 3) S hRf hRl hK hA hP hD hS hl [.long (Int32.toInt64 a1), .long 0, .long (Int32.toInt64 ((σ.2 5 (Int32.toNatClampNeg 3)) - 1))] [] (kM_in l D _ _ (Int32.toInt64 a1) 0 (Int32.toInt64 ((σ.2 5 (Int32.toNatClampNeg 3)) - 1)) r2 hr2) gX9_isCoin_X9_in rfl (by decide +kernel) rfl ⟨by decide, by decide⟩ rfl (Nat.le_of_ble_eq_true rfl) dX9_isCoin_12 (fun H locs hP hD hS => ?_)
  refine W.eq (g2 := F0 m 15 ls [.int r2]) rfl ?_
  obtain ⟨g3, hf⟩ := gd_some hf
  exact hre _ _ _ _ _ hf hP hD hS dX9_isCoin_15 (by rcases g3 with g3 | g3 <;> (rw [g3]; rfl))
def FM_of (σ : MS) (a1 : Int32) (a2 : Int32) : Option Int32 :=
  gd (¬ ((((75 + (6 * a1)) + a2) : Int32) < 0 ∨ 147 ≤ Int32.toNatClampNeg ((75 + (6 * a1)) + a2))) (some (σ.2 5 (Int32.toNatClampNeg ((75 + (6 * a1)) + a2))))
set_option maxHeartbeats 4000000 in
set_option maxRecDepth 100000 in
theorem kM_of (l : Launch) (D : va_G) (h : Nat → Nat) (cI cZ : ClassId) (σ : MS) (a1 : Int32) (a2 : Int32) (r : Int32) (hf : FM_of σ a1 a2 = some r) : KK l D [(cI, .int), (cZ, .boolean)] yX9_of wsX9_of 0 0 [.ref (h 0), .int a1, .int a2] (mw h cI cZ σ) (some (.int r)) (mw h cI cZ σ) := by
  refine KK.ofI (own := RX9) (cc := cX9_of) (maxL := 3) (by decide) rfl rfl (Nat.le_of_ble_eq_true rfl) ?_
  intro p e s m args below meth c R Q A ls S hRf hRl hK hA hP hD hS hl hret
  obtain ⟨hx, hb, hml, hown, hts⟩ := id S
  have hin : ∀ w ∈ wsX90, w ∈ wsX9_of := fun w hw => List.mem_cons_of_mem _ (List.mem_append_right _ hw)
  have f19 := hts (.fieldLink RX9 19 "PenniesAwayModel" "realm" "[I") (by decide +kernel)
  have hl : lv_has ls 3 [(0, .ref (h 0)), (1, .int a1), (2, .int a2)] := hl
  have hre : ∀ (x : Int32) (pc : Nat) (ls : Array Slot) (H : Heap) (locs : List Loc), (some x : Option Int32) = some r → va_P D vwCl (mw h cI cZ σ) H → va_D A (mw h cI cZ σ) → va_S A s.heap H locs → decode cX9_of pc = .ok (.ireturn, 1) → W p l e R s m args below meth c H locs 0 0 Q (F0 m pc ls [.int x]) := by intro x pc ls H locs he; cases he; exact hret pc ls H locs
  unfold FM_of at hf
  refine lv_aload_n hx hb dX9_of_0 rfl (lv_at hl 0 rfl) ?_
  refine Mg_5 S hin hK hP f19 dX9_of_1 ?_
  refine lv_bipush (v := 75) hx hb dX9_of_4 (by decide) ?_
  refine lv_bipush (v := 6) hx hb dX9_of_6 (by decide) ?_
  refine lv_iload_n hx hb dX9_of_8 rfl (lv_at hl 1 rfl) ?_
  refine lv_imul hx hb dX9_of_9 ?_
  refine lv_iadd hx hb dX9_of_10 ?_
  refine lv_iload_n hx hb dX9_of_11 rfl (lv_at hl 2 rfl) ?_
  refine lv_iadd hx hb dX9_of_12 ?_
  obtain ⟨g1, hf⟩ := gd_some hf
  refine Ml_5 S hK hP g1 dX9_of_13 ?_
  exact hre _ _ _ _ _ hf hP hD hS dX9_of_14
def FM_becomes (σ : MS) (a1 : Int32) (a2 : Int32) (a3 : Int32) : Option MS :=
  gd (¬ ((((75 + (6 * a1)) + a2) : Int32) < 0 ∨ 147 ≤ Int32.toNatClampNeg ((75 + (6 * a1)) + a2))) (nm (setA σ 5 (Int32.toNatClampNeg ((75 + (6 * a1)) + a2)) a3) fun (σ2 : MS) => some σ2)
set_option maxHeartbeats 4000000 in
set_option maxRecDepth 100000 in
theorem kM_becomes (l : Launch) (D : va_G) (h : Nat → Nat) (cI cZ : ClassId) (σ : MS) (a1 : Int32) (a2 : Int32) (a3 : Int32)  (σ' : MS) (hf : FM_becomes σ a1 a2 a3 = some σ') : KK l D [(cI, .int), (cZ, .boolean)] yX9_becomes wsX9_becomes 0 0 [.ref (h 0), .int a1, .int a2, .int a3] (mw h cI cZ σ) none (mw h cI cZ σ') := by
  refine KK.ofV (own := RX9) (cc := cX9_becomes) (maxL := 4) (by decide) rfl rfl (Nat.le_of_ble_eq_true rfl) ?_
  intro p e s m args below meth c R Q A ls S hRf hRl hK hA hP hD hS hl hret
  obtain ⟨hx, hb, hml, hown, hts⟩ := id S
  have hin : ∀ w ∈ wsX90, w ∈ wsX9_becomes := fun w hw => List.mem_cons_of_mem _ (List.mem_append_right _ hw)
  have f19 := hts (.fieldLink RX9 19 "PenniesAwayModel" "realm" "[I") (by decide +kernel)
  have hl : lv_has ls 4 [(0, .ref (h 0)), (1, .int a1), (2, .int a2), (3, .int a3)] := hl
  have hre : ∀ (σx : MS) (pc : Nat) (ls : Array Slot) (H : Heap) (locs : List Loc), (some σx : Option MS) = some σ' → va_P D vwCl (mw h cI cZ σx) H → va_D A (mw h cI cZ σx) → va_S A s.heap H locs → decode cX9_becomes pc = .ok (.return_, 1) → W p l e R s m args below meth c H locs 0 0 Q (F0 m pc ls []) := by intro σx pc ls H locs he; cases he; exact hret pc ls H locs
  unfold FM_becomes at hf
  refine lv_aload_n hx hb dX9_becomes_0 rfl (lv_at hl 0 rfl) ?_
  refine Mg_5 S hin hK hP f19 dX9_becomes_1 ?_
  refine lv_bipush (v := 75) hx hb dX9_becomes_4 (by decide) ?_
  refine lv_bipush (v := 6) hx hb dX9_becomes_6 (by decide) ?_
  refine lv_iload_n hx hb dX9_becomes_8 rfl (lv_at hl 1 rfl) ?_
  refine lv_imul hx hb dX9_becomes_9 ?_
  refine lv_iadd hx hb dX9_becomes_10 ?_
  refine lv_iload_n hx hb dX9_becomes_11 rfl (lv_at hl 2 rfl) ?_
  refine lv_iadd hx hb dX9_becomes_12 ?_
  refine lv_iload_n hx hb dX9_becomes_13 rfl (lv_at hl 3 rfl) ?_
  obtain ⟨g1, hf⟩ := gd_some hf
  refine Ms_5 S hK hP hD hS g1 dX9_becomes_14 (fun H locs hP hD hS => ?_)
  obtain ⟨σ2, eσ2, hf⟩ := nm_some hf
  rw [← eσ2] at hP hD
  exact hre _ _ _ _ _ hf hP hD hS dX9_becomes_15
def FM_townOf (σ : MS) (a1 : Int32) : Option Int32 :=
  Option.bind (FM_of σ a1 1) fun (r1 : Int32) => gd (¬ (((69 + r1) : Int32) < 0 ∨ 147 ≤ Int32.toNatClampNeg (69 + r1))) (some (σ.2 5 (Int32.toNatClampNeg (69 + r1))))
set_option maxHeartbeats 4000000 in
set_option maxRecDepth 100000 in
theorem kM_townOf (l : Launch) (D : va_G) (h : Nat → Nat) (cI cZ : ClassId) (σ : MS) (a1 : Int32) (r : Int32) (hf : FM_townOf σ a1 = some r) : KK l D [(cI, .int), (cZ, .boolean)] yX9_townOf wsX9_townOf 1 22 [.ref (h 0), .int a1] (mw h cI cZ σ) (some (.int r)) (mw h cI cZ σ) := by
  refine KK.ofI (own := RX9) (cc := cX9_townOf) (maxL := 2) (by decide) rfl rfl (Nat.le_of_ble_eq_true rfl) ?_
  intro p e s m args below meth c R Q A ls S hRf hRl hK hA hP hD hS hl hret
  obtain ⟨hx, hb, hml, hown, hts⟩ := id S
  have hin : ∀ w ∈ wsX90, w ∈ wsX9_townOf := fun w hw => List.mem_cons_of_mem _ (List.mem_append_right _ hw)
  have f19 := hts (.fieldLink RX9 19 "PenniesAwayModel" "realm" "[I") (by decide +kernel)
  have hl : lv_has ls 2 [(0, .ref (h 0)), (1, .int a1)] := hl
  have hre : ∀ (x : Int32) (pc : Nat) (ls : Array Slot) (H : Heap) (locs : List Loc), (some x : Option Int32) = some r → va_P D vwCl (mw h cI cZ σ) H → va_D A (mw h cI cZ σ) → va_S A s.heap H locs → decode cX9_townOf pc = .ok (.ireturn, 1) → W p l e R s m args below meth c H locs 0 0 Q (F0 m pc ls [.int x]) := by intro x pc ls H locs he; cases he; exact hret pc ls H locs
  unfold FM_townOf at hf
  refine lv_aload_n hx hb dX9_townOf_0 rfl (lv_at hl 0 rfl) ?_
  refine Mg_5 S hin hK hP f19 dX9_townOf_1 ?_
  refine lv_bipush (v := 69) hx hb dX9_townOf_4 (by decide) ?_
  refine lv_aload_n hx hb dX9_townOf_6 rfl (lv_at hl 0 rfl) ?_
  refine lv_iload_n hx hb dX9_townOf_7 rfl (lv_at hl 1 rfl) ?_
  refine lv_iconst (v := 1) hx hb dX9_townOf_8 (by decide) ?_
  obtain ⟨r1, hr1, hf⟩ := bi_some hf
  refine kc_v (ci := 8) (q0 := 0) (n := 2) S hRf hRl hK hA hP hD hS hl [.int a1, .int 1] [.int 69, .ref (h 5)] (kM_of l D h cI cZ σ a1 1 r1 hr1) gX9_townOf_X9_of rfl (by decide +kernel) rfl ⟨by decide, by decide⟩ rfl rfl rfl rfl (Nat.le_of_ble_eq_true rfl) dX9_townOf_9 (fun H locs hP hD hS => ?_)
  refine W.eq (g2 := F0 m 12 ls [.int r1, .int 69, .ref (h 5)]) rfl ?_
  refine lv_iadd hx hb dX9_townOf_12 ?_
  obtain ⟨g2, hf⟩ := gd_some hf
  refine Ml_5 S hK hP g2 dX9_townOf_13 ?_
  exact hre _ _ _ _ _ hf hP hD hS dX9_townOf_14
def FM_farOf (σ : MS) (a1 : Int32) (a2 : Int32) : Option Int32 :=
  gd (¬ ((((5 + (8 * a1)) + a2) : Int32) < 0 ∨ 147 ≤ Int32.toNatClampNeg ((5 + (8 * a1)) + a2))) (some (σ.2 5 (Int32.toNatClampNeg ((5 + (8 * a1)) + a2))))
set_option maxHeartbeats 4000000 in
set_option maxRecDepth 100000 in
theorem kM_farOf (l : Launch) (D : va_G) (h : Nat → Nat) (cI cZ : ClassId) (σ : MS) (a1 : Int32) (a2 : Int32) (r : Int32) (hf : FM_farOf σ a1 a2 = some r) : KK l D [(cI, .int), (cZ, .boolean)] yX9_farOf wsX9_farOf 0 0 [.ref (h 0), .int a1, .int a2] (mw h cI cZ σ) (some (.int r)) (mw h cI cZ σ) := by
  refine KK.ofI (own := RX9) (cc := cX9_farOf) (maxL := 3) (by decide) rfl rfl (Nat.le_of_ble_eq_true rfl) ?_
  intro p e s m args below meth c R Q A ls S hRf hRl hK hA hP hD hS hl hret
  obtain ⟨hx, hb, hml, hown, hts⟩ := id S
  have hin : ∀ w ∈ wsX90, w ∈ wsX9_farOf := fun w hw => List.mem_cons_of_mem _ (List.mem_append_right _ hw)
  have f19 := hts (.fieldLink RX9 19 "PenniesAwayModel" "realm" "[I") (by decide +kernel)
  have hl : lv_has ls 3 [(0, .ref (h 0)), (1, .int a1), (2, .int a2)] := hl
  have hre : ∀ (x : Int32) (pc : Nat) (ls : Array Slot) (H : Heap) (locs : List Loc), (some x : Option Int32) = some r → va_P D vwCl (mw h cI cZ σ) H → va_D A (mw h cI cZ σ) → va_S A s.heap H locs → decode cX9_farOf pc = .ok (.ireturn, 1) → W p l e R s m args below meth c H locs 0 0 Q (F0 m pc ls [.int x]) := by intro x pc ls H locs he; cases he; exact hret pc ls H locs
  unfold FM_farOf at hf
  refine lv_aload_n hx hb dX9_farOf_0 rfl (lv_at hl 0 rfl) ?_
  refine Mg_5 S hin hK hP f19 dX9_farOf_1 ?_
  refine lv_iconst (v := 5) hx hb dX9_farOf_4 (by decide) ?_
  refine lv_bipush (v := 8) hx hb dX9_farOf_5 (by decide) ?_
  refine lv_iload_n hx hb dX9_farOf_7 rfl (lv_at hl 1 rfl) ?_
  refine lv_imul hx hb dX9_farOf_8 ?_
  refine lv_iadd hx hb dX9_farOf_9 ?_
  refine lv_iload_n hx hb dX9_farOf_10 rfl (lv_at hl 2 rfl) ?_
  refine lv_iadd hx hb dX9_farOf_11 ?_
  obtain ⟨g1, hf⟩ := gd_some hf
  refine Ml_5 S hK hP g1 dX9_farOf_12 ?_
  exact hre _ _ _ _ _ hf hP hD hS dX9_farOf_13
def FM_spanOf (σ : MS) (a1 : Int32) : Option Int32 :=
  Option.bind (FM_of σ a1 0) fun (r1 : Int32) => if r1 = 4 then (gd (¬ ((0 : Int32) < 0 ∨ 147 ≤ Int32.toNatClampNeg 0)) (gd (¬ (2 : Int32) = 0) (some ((σ.2 5 (Int32.toNatClampNeg 0)) / 2)))) else (if r1 = 2 then (gd (¬ ((0 : Int32) < 0 ∨ 147 ≤ Int32.toNatClampNeg 0)) (gd (¬ ((0 : Int32) < 0 ∨ 147 ≤ Int32.toNatClampNeg 0)) (gd (¬ (2 : Int32) = 0) (some ((σ.2 5 (Int32.toNatClampNeg 0)) + ((σ.2 5 (Int32.toNatClampNeg 0)) / 2)))))) else (gd (¬ ((0 : Int32) < 0 ∨ 147 ≤ Int32.toNatClampNeg 0)) (some (σ.2 5 (Int32.toNatClampNeg 0)))))
set_option maxHeartbeats 4000000 in
set_option maxRecDepth 100000 in
theorem kM_spanOf (l : Launch) (D : va_G) (h : Nat → Nat) (cI cZ : ClassId) (σ : MS) (a1 : Int32) (r : Int32) (hf : FM_spanOf σ a1 = some r) : KK l D [(cI, .int), (cZ, .boolean)] yX9_spanOf wsX9_spanOf 1 22 [.ref (h 0), .int a1] (mw h cI cZ σ) (some (.int r)) (mw h cI cZ σ) := by
  refine KK.ofI (own := RX9) (cc := cX9_spanOf) (maxL := 3) (by decide) rfl rfl (Nat.le_of_ble_eq_true rfl) ?_
  intro p e s m args below meth c R Q A ls S hRf hRl hK hA hP hD hS hl hret
  obtain ⟨hx, hb, hml, hown, hts⟩ := id S
  have hin : ∀ w ∈ wsX90, w ∈ wsX9_spanOf := fun w hw => List.mem_cons_of_mem _ (List.mem_append_right _ hw)
  have f19 := hts (.fieldLink RX9 19 "PenniesAwayModel" "realm" "[I") (by decide +kernel)
  have hl : lv_has ls 3 [(0, .ref (h 0)), (1, .int a1)] := hl
  have hre : ∀ (x : Int32) (pc : Nat) (ls : Array Slot) (H : Heap) (locs : List Loc), (some x : Option Int32) = some r → va_P D vwCl (mw h cI cZ σ) H → va_D A (mw h cI cZ σ) → va_S A s.heap H locs → decode cX9_spanOf pc = .ok (.ireturn, 1) → W p l e R s m args below meth c H locs 0 0 Q (F0 m pc ls [.int x]) := by intro x pc ls H locs he; cases he; exact hret pc ls H locs
  unfold FM_spanOf at hf
  refine lv_aload_n hx hb dX9_spanOf_0 rfl (lv_at hl 0 rfl) ?_
  refine lv_iload_n hx hb dX9_spanOf_1 rfl (lv_at hl 1 rfl) ?_
  refine lv_iconst (v := 0) hx hb dX9_spanOf_2 (by decide) ?_
  obtain ⟨r1, hr1, hf⟩ := bi_some hf
  refine kc_v (ci := 8) (q0 := 0) (n := 2) S hRf hRl hK hA hP hD hS hl [.int a1, .int 0] [] (kM_of l D h cI cZ σ a1 0 r1 hr1) gX9_spanOf_X9_of rfl (by decide +kernel) rfl ⟨by decide, by decide⟩ rfl rfl rfl rfl (Nat.le_of_ble_eq_true rfl) dX9_spanOf_3 (fun H locs hP hD hS => ?_)
  refine W.eq (g2 := F0 m 6 ls [.int r1]) rfl ?_
  refine lv_istore_n (lv' := [(2, .int r1), (0, .ref (h 0)), (1, .int a1)]) hx hb dX9_spanOf_6 rfl hl (by decide) rfl (fun ls hl => ?_)
  refine lv_iload_n hx hb dX9_spanOf_7 rfl (lv_at hl 0 rfl) ?_
  refine lv_iconst (v := 4) hx hb dX9_spanOf_8 (by decide) ?_
  refine lv_icmp_ne (tgt := 23) hx hb dX9_spanOf_9 (by decide) (fun c2 => ?_) (fun c2 => ?_)
  · have hf := (if_neg c2).symm.trans hf
    refine lv_iload_n hx hb dX9_spanOf_23 rfl (lv_at hl 0 rfl) ?_
    refine lv_iconst (v := 2) hx hb dX9_spanOf_24 (by decide) ?_
    refine lv_icmp_ne (tgt := 46) hx hb dX9_spanOf_25 (by decide) (fun c3 => ?_) (fun c3 => ?_)
    · have hf := (if_neg c3).symm.trans hf
      refine lv_aload_n hx hb dX9_spanOf_46 rfl (lv_at hl 1 rfl) ?_
      refine Mg_5 S hin hK hP f19 dX9_spanOf_47 ?_
      refine lv_iconst (v := 0) hx hb dX9_spanOf_50 (by decide) ?_
      obtain ⟨g4, hf⟩ := gd_some hf
      refine Ml_5 S hK hP g4 dX9_spanOf_51 ?_
      exact hre _ _ _ _ _ hf hP hD hS dX9_spanOf_52
    · have hf := (if_pos c3).symm.trans hf
      refine lv_aload_n hx hb dX9_spanOf_28 rfl (lv_at hl 1 rfl) ?_
      refine Mg_5 S hin hK hP f19 dX9_spanOf_29 ?_
      refine lv_iconst (v := 0) hx hb dX9_spanOf_32 (by decide) ?_
      obtain ⟨g5, hf⟩ := gd_some hf
      refine Ml_5 S hK hP g5 dX9_spanOf_33 ?_
      refine lv_aload_n hx hb dX9_spanOf_34 rfl (lv_at hl 1 rfl) ?_
      refine Mg_5 S hin hK hP f19 dX9_spanOf_35 ?_
      refine lv_iconst (v := 0) hx hb dX9_spanOf_38 (by decide) ?_
      obtain ⟨g6, hf⟩ := gd_some hf
      refine Ml_5 S hK hP g6 dX9_spanOf_39 ?_
      refine lv_iconst (v := 2) hx hb dX9_spanOf_40 (by decide) ?_
      obtain ⟨g7, hf⟩ := gd_some hf
      refine lv_idiv hx hb dX9_spanOf_41 g7 ?_
      refine lv_iadd hx hb dX9_spanOf_42 ?_
      refine lv_goto (tgt := 52) hx hb dX9_spanOf_43 (by decide) ?_
      exact hre _ _ _ _ _ hf hP hD hS dX9_spanOf_52
  · have hf := (if_pos c2).symm.trans hf
    refine lv_aload_n hx hb dX9_spanOf_12 rfl (lv_at hl 1 rfl) ?_
    refine Mg_5 S hin hK hP f19 dX9_spanOf_13 ?_
    refine lv_iconst (v := 0) hx hb dX9_spanOf_16 (by decide) ?_
    obtain ⟨g8, hf⟩ := gd_some hf
    refine Ml_5 S hK hP g8 dX9_spanOf_17 ?_
    refine lv_iconst (v := 2) hx hb dX9_spanOf_18 (by decide) ?_
    obtain ⟨g9, hf⟩ := gd_some hf
    refine lv_idiv hx hb dX9_spanOf_19 g9 ?_
    refine lv_goto (tgt := 52) hx hb dX9_spanOf_20 (by decide) ?_
    exact hre _ _ _ _ _ hf hP hD hS dX9_spanOf_52
def FM_slackBy_67 (σ : MS) (l1 : Int32) (s0 : Int32) : Option Int32 :=
  Option.bind (FM_spanOf σ l1) fun (r12 : Int32) => Option.bind (FM_of σ l1 2) fun (r13 : Int32) => some ((r12 - r13) - s0)
def FM_slackBy_40 (σ : MS) (l1 : Int32) (l2 : Int32) : Option Int32 :=
  Option.bind (FM_of σ l1 3) fun (r8 : Int32) => if r8 = 1 then (Option.bind (FM_of σ l1 4) fun (r11 : Int32) => FM_slackBy_67 σ l1 r11) else (Option.bind (FM_of σ l1 4) fun (r10 : Int32) => FM_slackBy_67 σ l1 (l2 + r10))
def FM_slackBy (σ : MS) (a1 : Int32) (a2 : Int32) : Option Int32 :=
  Option.bind (FM_of σ a1 5) fun (r1 : Int32) => if r1 = 1 then (some (-1000000)) else (Option.bind (FM_of σ a1 0) fun (r3 : Int32) => if r3 = 5 then (some (-1000000)) else (Option.bind (FM_of σ a1 3) fun (r5 : Int32) => if r5 = 1 then (FM_slackBy_40 σ a1 a2) else (if a2 < 10000 then (FM_slackBy_40 σ a1 a2) else (some (-1000000)))))
set_option maxHeartbeats 4000000 in
set_option maxRecDepth 100000 in
theorem kM_slackBy (l : Launch) (D : va_G) (h : Nat → Nat) (cI cZ : ClassId) (σ : MS) (a1 : Int32) (a2 : Int32) (r : Int32) (hf : FM_slackBy σ a1 a2 = some r) : KK l D [(cI, .int), (cZ, .boolean)] yX9_slackBy wsX9_slackBy 2 44 [.ref (h 0), .int a1, .int a2] (mw h cI cZ σ) (some (.int r)) (mw h cI cZ σ) := by
  refine KK.ofI (own := RX9) (cc := cX9_slackBy) (maxL := 4) (by decide) rfl rfl (Nat.le_of_ble_eq_true rfl) ?_
  intro p e s m args below meth c R Q A ls S hRf hRl hK hA hP hD hS hl hret
  obtain ⟨hx, hb, hml, hown, hts⟩ := id S
  have hin : ∀ w ∈ wsX90, w ∈ wsX9_slackBy := fun w hw => List.mem_cons_of_mem _ (List.mem_append_right _ hw)
  have c83 := hts (.constant RX9 83 (-1000000)) (by decide +kernel)
  have hl : lv_has ls 4 [(0, .ref (h 0)), (1, .int a1), (2, .int a2)] := hl
  have hre : ∀ (x : Int32) (pc : Nat) (ls : Array Slot) (H : Heap) (locs : List Loc), (some x : Option Int32) = some r → va_P D vwCl (mw h cI cZ σ) H → va_D A (mw h cI cZ σ) → va_S A s.heap H locs → decode cX9_slackBy pc = .ok (.ireturn, 1) → W p l e R s m args below meth c H locs 0 0 Q (F0 m pc ls [.int x]) := by intro x pc ls H locs he; cases he; exact hret pc ls H locs
  have b67 : ∀ (l1 : Int32) (s0 : Int32) (ls : Array Slot) (H : Heap) (locs : List Loc), FM_slackBy_67 σ l1 s0 = some r → lv_has ls 4 [(0, .ref (h 0)), (1, .int l1)] → va_P D vwCl (mw h cI cZ σ) H → va_D A (mw h cI cZ σ) → va_S A s.heap H locs → W p l e R s m args below meth c H locs 0 0 Q (F0 m 67 ls [.int s0]) := by
    intro l1 s0 ls H locs hf hl hP hD hS
    unfold FM_slackBy_67 at hf
    refine lv_istore_n (lv' := [(3, .int s0), (0, .ref (h 0)), (1, .int l1)]) hx hb dX9_slackBy_67 rfl hl (by decide) rfl (fun ls hl => ?_)
    refine lv_aload_n hx hb dX9_slackBy_68 rfl (lv_at hl 1 rfl) ?_
    refine lv_iload_n hx hb dX9_slackBy_69 rfl (lv_at hl 2 rfl) ?_
    obtain ⟨r12, hr12, hf⟩ := bi_some hf
    refine kc_v (ci := 8) (q0 := 0) (n := 1) S hRf hRl hK hA hP hD hS hl [.int l1] [] (kM_spanOf l D h cI cZ σ l1 r12 hr12) gX9_slackBy_X9_spanOf rfl (by decide +kernel) rfl ⟨by decide, by decide⟩ rfl rfl rfl rfl (Nat.le_of_ble_eq_true rfl) dX9_slackBy_70 (fun H locs hP hD hS => ?_)
    refine W.eq (g2 := F0 m 73 ls [.int r12]) rfl ?_
    refine lv_aload_n hx hb dX9_slackBy_73 rfl (lv_at hl 1 rfl) ?_
    refine lv_iload_n hx hb dX9_slackBy_74 rfl (lv_at hl 2 rfl) ?_
    refine lv_iconst (v := 2) hx hb dX9_slackBy_75 (by decide) ?_
    obtain ⟨r13, hr13, hf⟩ := bi_some hf
    refine kc_v (ci := 8) (q0 := 0) (n := 2) S hRf hRl hK hA hP hD hS hl [.int l1, .int 2] [.int r12] (kM_of l D h cI cZ σ l1 2 r13 hr13) gX9_slackBy_X9_of rfl (by decide +kernel) rfl ⟨by decide, by decide⟩ rfl rfl rfl rfl (Nat.le_of_ble_eq_true rfl) dX9_slackBy_76 (fun H locs hP hD hS => ?_)
    refine W.eq (g2 := F0 m 79 ls [.int r13, .int r12]) rfl ?_
    refine lv_isub hx hb dX9_slackBy_79 ?_
    refine lv_iload_n hx hb dX9_slackBy_80 rfl (lv_at hl 0 rfl) ?_
    refine lv_isub hx hb dX9_slackBy_81 ?_
    exact hre _ _ _ _ _ hf hP hD hS dX9_slackBy_82
  have b40 : ∀ (l1 : Int32) (l2 : Int32) (ls : Array Slot) (H : Heap) (locs : List Loc), FM_slackBy_40 σ l1 l2 = some r → lv_has ls 4 [(0, .ref (h 0)), (1, .int l1), (2, .int l2)] → va_P D vwCl (mw h cI cZ σ) H → va_D A (mw h cI cZ σ) → va_S A s.heap H locs → W p l e R s m args below meth c H locs 0 0 Q (F0 m 40 ls []) := by
    intro l1 l2 ls H locs hf hl hP hD hS
    unfold FM_slackBy_40 at hf
    refine lv_aload_n hx hb dX9_slackBy_40 rfl (lv_at hl 0 rfl) ?_
    refine lv_iload_n hx hb dX9_slackBy_41 rfl (lv_at hl 1 rfl) ?_
    refine lv_iconst (v := 3) hx hb dX9_slackBy_42 (by decide) ?_
    obtain ⟨r8, hr8, hf⟩ := bi_some hf
    refine kc_v (ci := 8) (q0 := 0) (n := 2) S hRf hRl hK hA hP hD hS hl [.int l1, .int 3] [] (kM_of l D h cI cZ σ l1 3 r8 hr8) gX9_slackBy_X9_of rfl (by decide +kernel) rfl ⟨by decide, by decide⟩ rfl rfl rfl rfl (Nat.le_of_ble_eq_true rfl) dX9_slackBy_43 (fun H locs hP hD hS => ?_)
    refine W.eq (g2 := F0 m 46 ls [.int r8]) rfl ?_
    refine lv_iconst (v := 1) hx hb dX9_slackBy_46 (by decide) ?_
    refine lv_icmp_ne (tgt := 59) hx hb dX9_slackBy_47 (by decide) (fun c9 => ?_) (fun c9 => ?_)
    · have hf := (if_neg c9).symm.trans hf
      refine lv_iload_n hx hb dX9_slackBy_59 rfl (lv_at hl 2 rfl) ?_
      refine lv_aload_n hx hb dX9_slackBy_60 rfl (lv_at hl 0 rfl) ?_
      refine lv_iload_n hx hb dX9_slackBy_61 rfl (lv_at hl 1 rfl) ?_
      refine lv_iconst (v := 4) hx hb dX9_slackBy_62 (by decide) ?_
      obtain ⟨r10, hr10, hf⟩ := bi_some hf
      refine kc_v (ci := 8) (q0 := 0) (n := 2) S hRf hRl hK hA hP hD hS hl [.int l1, .int 4] [.int l2] (kM_of l D h cI cZ σ l1 4 r10 hr10) gX9_slackBy_X9_of rfl (by decide +kernel) rfl ⟨by decide, by decide⟩ rfl rfl rfl rfl (Nat.le_of_ble_eq_true rfl) dX9_slackBy_63 (fun H locs hP hD hS => ?_)
      refine W.eq (g2 := F0 m 66 ls [.int r10, .int l2]) rfl ?_
      refine lv_iadd hx hb dX9_slackBy_66 ?_
      exact b67 _ _ _ _ _ hf (lv_sub hl [0, 1] rfl) hP hD hS
    · have hf := (if_pos c9).symm.trans hf
      refine lv_aload_n hx hb dX9_slackBy_50 rfl (lv_at hl 0 rfl) ?_
      refine lv_iload_n hx hb dX9_slackBy_51 rfl (lv_at hl 1 rfl) ?_
      refine lv_iconst (v := 4) hx hb dX9_slackBy_52 (by decide) ?_
      obtain ⟨r11, hr11, hf⟩ := bi_some hf
      refine kc_v (ci := 8) (q0 := 0) (n := 2) S hRf hRl hK hA hP hD hS hl [.int l1, .int 4] [] (kM_of l D h cI cZ σ l1 4 r11 hr11) gX9_slackBy_X9_of rfl (by decide +kernel) rfl ⟨by decide, by decide⟩ rfl rfl rfl rfl (Nat.le_of_ble_eq_true rfl) dX9_slackBy_53 (fun H locs hP hD hS => ?_)
      refine W.eq (g2 := F0 m 56 ls [.int r11]) rfl ?_
      refine lv_goto (tgt := 67) hx hb dX9_slackBy_56 (by decide) ?_
      exact b67 _ _ _ _ _ hf (lv_sub hl [0, 1] rfl) hP hD hS
  unfold FM_slackBy at hf
  refine lv_aload_n hx hb dX9_slackBy_0 rfl (lv_at hl 0 rfl) ?_
  refine lv_iload_n hx hb dX9_slackBy_1 rfl (lv_at hl 1 rfl) ?_
  refine lv_iconst (v := 5) hx hb dX9_slackBy_2 (by decide) ?_
  obtain ⟨r1, hr1, hf⟩ := bi_some hf
  refine kc_v (ci := 8) (q0 := 0) (n := 2) S hRf hRl hK hA hP hD hS hl [.int a1, .int 5] [] (kM_of l D h cI cZ σ a1 5 r1 hr1) gX9_slackBy_X9_of rfl (by decide +kernel) rfl ⟨by decide, by decide⟩ rfl rfl rfl rfl (Nat.le_of_ble_eq_true rfl) dX9_slackBy_3 (fun H locs hP hD hS => ?_)
  refine W.eq (g2 := F0 m 6 ls [.int r1]) rfl ?_
  refine lv_iconst (v := 1) hx hb dX9_slackBy_6 (by decide) ?_
  refine lv_icmp_eq (tgt := 37) hx hb dX9_slackBy_7 (by decide) (fun c2 => ?_) (fun c2 => ?_)
  · have hf := (if_pos c2).symm.trans hf
    refine lv_ldc (v := (-1000000)) hx hb hown c83 dX9_slackBy_37 ?_
    exact hre _ _ _ _ _ hf hP hD hS dX9_slackBy_39
  · have hf := (if_neg c2).symm.trans hf
    refine lv_aload_n hx hb dX9_slackBy_10 rfl (lv_at hl 0 rfl) ?_
    refine lv_iload_n hx hb dX9_slackBy_11 rfl (lv_at hl 1 rfl) ?_
    refine lv_iconst (v := 0) hx hb dX9_slackBy_12 (by decide) ?_
    obtain ⟨r3, hr3, hf⟩ := bi_some hf
    refine kc_v (ci := 8) (q0 := 0) (n := 2) S hRf hRl hK hA hP hD hS hl [.int a1, .int 0] [] (kM_of l D h cI cZ σ a1 0 r3 hr3) gX9_slackBy_X9_of rfl (by decide +kernel) rfl ⟨by decide, by decide⟩ rfl rfl rfl rfl (Nat.le_of_ble_eq_true rfl) dX9_slackBy_13 (fun H locs hP hD hS => ?_)
    refine W.eq (g2 := F0 m 16 ls [.int r3]) rfl ?_
    refine lv_iconst (v := 5) hx hb dX9_slackBy_16 (by decide) ?_
    refine lv_icmp_eq (tgt := 37) hx hb dX9_slackBy_17 (by decide) (fun c4 => ?_) (fun c4 => ?_)
    · have hf := (if_pos c4).symm.trans hf
      refine lv_ldc (v := (-1000000)) hx hb hown c83 dX9_slackBy_37 ?_
      exact hre _ _ _ _ _ hf hP hD hS dX9_slackBy_39
    · have hf := (if_neg c4).symm.trans hf
      refine lv_aload_n hx hb dX9_slackBy_20 rfl (lv_at hl 0 rfl) ?_
      refine lv_iload_n hx hb dX9_slackBy_21 rfl (lv_at hl 1 rfl) ?_
      refine lv_iconst (v := 3) hx hb dX9_slackBy_22 (by decide) ?_
      obtain ⟨r5, hr5, hf⟩ := bi_some hf
      refine kc_v (ci := 8) (q0 := 0) (n := 2) S hRf hRl hK hA hP hD hS hl [.int a1, .int 3] [] (kM_of l D h cI cZ σ a1 3 r5 hr5) gX9_slackBy_X9_of rfl (by decide +kernel) rfl ⟨by decide, by decide⟩ rfl rfl rfl rfl (Nat.le_of_ble_eq_true rfl) dX9_slackBy_23 (fun H locs hP hD hS => ?_)
      refine W.eq (g2 := F0 m 26 ls [.int r5]) rfl ?_
      refine lv_iconst (v := 1) hx hb dX9_slackBy_26 (by decide) ?_
      refine lv_icmp_eq (tgt := 40) hx hb dX9_slackBy_27 (by decide) (fun c6 => ?_) (fun c6 => ?_)
      · have hf := (if_pos c6).symm.trans hf
        exact b40 _ _ _ _ _ hf (lv_sub hl [0, 1, 2] rfl) hP hD hS
      · have hf := (if_neg c6).symm.trans hf
        refine lv_iload_n hx hb dX9_slackBy_30 rfl (lv_at hl 2 rfl) ?_
        refine lv_sipush (v := 10000) hx hb dX9_slackBy_31 (by decide) ?_
        refine lv_icmp_lt (tgt := 40) hx hb dX9_slackBy_34 (by decide) (fun c7 => ?_) (fun c7 => ?_)
        · have hf := (if_pos c7).symm.trans hf
          exact b40 _ _ _ _ _ hf (lv_sub hl [0, 1, 2] rfl) hP hD hS
        · have hf := (if_neg c7).symm.trans hf
          refine lv_ldc (v := (-1000000)) hx hb hown c83 dX9_slackBy_37 ?_
          exact hre _ _ _ _ _ hf hP hD hS dX9_slackBy_39
def FM_slackOf (σ : MS) (a1 : Int32) : Option Int32 :=
  Option.bind (FM_townOf σ a1) fun (r1 : Int32) => Option.bind (FM_farOf σ r1 0) fun (r2 : Int32) => Option.bind (FM_slackBy σ a1 r2) fun (r3 : Int32) => some r3
set_option maxHeartbeats 4000000 in
set_option maxRecDepth 100000 in
theorem kM_slackOf (l : Launch) (D : va_G) (h : Nat → Nat) (cI cZ : ClassId) (σ : MS) (a1 : Int32) (r : Int32) (hf : FM_slackOf σ a1 = some r) : KK l D [(cI, .int), (cZ, .boolean)] yX9_slackOf wsX9_slackOf 3 67 [.ref (h 0), .int a1] (mw h cI cZ σ) (some (.int r)) (mw h cI cZ σ) := by
  refine KK.ofI (own := RX9) (cc := cX9_slackOf) (maxL := 2) (by decide) rfl rfl (Nat.le_of_ble_eq_true rfl) ?_
  intro p e s m args below meth c R Q A ls S hRf hRl hK hA hP hD hS hl hret
  obtain ⟨hx, hb, hml, hown, hts⟩ := id S
  have hin : ∀ w ∈ wsX90, w ∈ wsX9_slackOf := fun w hw => List.mem_cons_of_mem _ (List.mem_append_right _ hw)
  have hl : lv_has ls 2 [(0, .ref (h 0)), (1, .int a1)] := hl
  have hre : ∀ (x : Int32) (pc : Nat) (ls : Array Slot) (H : Heap) (locs : List Loc), (some x : Option Int32) = some r → va_P D vwCl (mw h cI cZ σ) H → va_D A (mw h cI cZ σ) → va_S A s.heap H locs → decode cX9_slackOf pc = .ok (.ireturn, 1) → W p l e R s m args below meth c H locs 0 0 Q (F0 m pc ls [.int x]) := by intro x pc ls H locs he; cases he; exact hret pc ls H locs
  unfold FM_slackOf at hf
  refine lv_aload_n hx hb dX9_slackOf_0 rfl (lv_at hl 0 rfl) ?_
  refine lv_iload_n hx hb dX9_slackOf_1 rfl (lv_at hl 1 rfl) ?_
  refine lv_aload_n hx hb dX9_slackOf_2 rfl (lv_at hl 0 rfl) ?_
  refine lv_aload_n hx hb dX9_slackOf_3 rfl (lv_at hl 0 rfl) ?_
  refine lv_iload_n hx hb dX9_slackOf_4 rfl (lv_at hl 1 rfl) ?_
  obtain ⟨r1, hr1, hf⟩ := bi_some hf
  refine kc_v (ci := 8) (q0 := 0) (n := 1) S hRf hRl hK hA hP hD hS hl [.int a1] [.ref (h 0), .int a1, .ref (h 0)] (kM_townOf l D h cI cZ σ a1 r1 hr1) gX9_slackOf_X9_townOf rfl (by decide +kernel) rfl ⟨by decide, by decide⟩ rfl rfl rfl rfl (Nat.le_of_ble_eq_true rfl) dX9_slackOf_5 (fun H locs hP hD hS => ?_)
  refine W.eq (g2 := F0 m 8 ls [.int r1, .ref (h 0), .int a1, .ref (h 0)]) rfl ?_
  refine lv_iconst (v := 0) hx hb dX9_slackOf_8 (by decide) ?_
  obtain ⟨r2, hr2, hf⟩ := bi_some hf
  refine kc_v (ci := 8) (q0 := 0) (n := 2) S hRf hRl hK hA hP hD hS hl [.int r1, .int 0] [.int a1, .ref (h 0)] (kM_farOf l D h cI cZ σ r1 0 r2 hr2) gX9_slackOf_X9_farOf rfl (by decide +kernel) rfl ⟨by decide, by decide⟩ rfl rfl rfl rfl (Nat.le_of_ble_eq_true rfl) dX9_slackOf_9 (fun H locs hP hD hS => ?_)
  refine W.eq (g2 := F0 m 12 ls [.int r2, .int a1, .ref (h 0)]) rfl ?_
  obtain ⟨r3, hr3, hf⟩ := bi_some hf
  refine kc_v (ci := 8) (q0 := 0) (n := 2) S hRf hRl hK hA hP hD hS hl [.int a1, .int r2] [] (kM_slackBy l D h cI cZ σ a1 r2 r3 hr3) gX9_slackOf_X9_slackBy rfl (by decide +kernel) rfl ⟨by decide, by decide⟩ rfl rfl rfl rfl (Nat.le_of_ble_eq_true rfl) dX9_slackOf_12 (fun H locs hP hD hS => ?_)
  refine W.eq (g2 := F0 m 15 ls [.int r3]) rfl ?_
  exact hre _ _ _ _ _ hf hP hD hS dX9_slackOf_15
def FM_keep_52  : Nat → MS → Int32 → Option MS
  | 0, _, _ => none
  | n + 1, σ, l1 => if 147 ≤ l1 then (nm (setF σ 9 ((σ.1 9) + 1)) fun (σ9 : MS) => some σ9) else (gd (¬ ((l1 : Int32) < 0 ∨ 147 ≤ Int32.toNatClampNeg l1)) (gd (¬ ((((147 * (σ.1 9)) + l1) : Int32) < 0 ∨ 3528 ≤ Int32.toNatClampNeg ((147 * (σ.1 9)) + l1))) (nm (setA σ 8 (Int32.toNatClampNeg ((147 * (σ.1 9)) + l1)) (σ.2 5 (Int32.toNatClampNeg l1))) fun (σ12 : MS) => nm (l1 + 1) fun (x13 : Int32) => (FM_keep_52 n) σ12 x13)))
def FM_keep_50 (σ : MS) : Option MS :=
  FM_keep_52 fuelN σ 0
def FM_keep_11  : Nat → MS → Int32 → Option MS
  | 0, _, _ => none
  | n + 1, σ, l1 => if 3381 ≤ l1 then (nm (setF σ 9 ((σ.1 9) - 1)) fun (σ3 : MS) => FM_keep_50 σ3) else (gd (¬ (((l1 + 147) : Int32) < 0 ∨ 3528 ≤ Int32.toNatClampNeg (l1 + 147))) (gd (¬ ((l1 : Int32) < 0 ∨ 3528 ≤ Int32.toNatClampNeg l1)) (nm (setA σ 8 (Int32.toNatClampNeg l1) (σ.2 8 (Int32.toNatClampNeg (l1 + 147)))) fun (σ6 : MS) => nm (l1 + 1) fun (x7 : Int32) => (FM_keep_11 n) σ6 x7)))
def FM_keep (σ : MS) : Option MS :=
  if (σ.1 9) = 24 then (FM_keep_11 fuelN σ 0) else (FM_keep_50 σ)
set_option maxHeartbeats 4000000 in
set_option maxRecDepth 100000 in
theorem kM_keep (l : Launch) (D : va_G) (h : Nat → Nat) (cI cZ : ClassId) (σ : MS)  (σ' : MS) (hf : FM_keep σ = some σ') : KK l D [(cI, .int), (cZ, .boolean)] yX9_keep wsX9_keep 0 0 [.ref (h 0)] (mw h cI cZ σ) none (mw h cI cZ σ') := by
  refine KK.ofV (own := RX9) (cc := cX9_keep) (maxL := 2) (by decide) rfl rfl (Nat.le_of_ble_eq_true rfl) ?_
  intro p e s m args below meth c R Q A ls S hRf hRl hK hA hP hD hS hl hret
  obtain ⟨hx, hb, hml, hown, hts⟩ := id S
  have hin : ∀ w ∈ wsX90, w ∈ wsX9_keep := fun w hw => List.mem_cons_of_mem _ (List.mem_append_right _ hw)
  have f183 := hts (.fieldLink RX9 183 "PenniesAwayModel" "acts" "I") (by decide +kernel)
  have f25 := hts (.fieldLink RX9 25 "PenniesAwayModel" "was" "[I") (by decide +kernel)
  have f19 := hts (.fieldLink RX9 19 "PenniesAwayModel" "realm" "[I") (by decide +kernel)
  have hl : lv_has ls 2 [(0, .ref (h 0))] := hl
  have hre : ∀ (σx : MS) (pc : Nat) (ls : Array Slot) (H : Heap) (locs : List Loc), (some σx : Option MS) = some σ' → va_P D vwCl (mw h cI cZ σx) H → va_D A (mw h cI cZ σx) → va_S A s.heap H locs → decode cX9_keep pc = .ok (.return_, 1) → W p l e R s m args below meth c H locs 0 0 Q (F0 m pc ls []) := by intro σx pc ls H locs he; cases he; exact hret pc ls H locs
  have b52 : ∀ (n : Nat), ∀ (σ : MS) (l1 : Int32) (ls : Array Slot) (H : Heap) (locs : List Loc), FM_keep_52 n σ l1 = some σ' → lv_has ls 2 [(0, .ref (h 0)), (1, .int l1)] → va_P D vwCl (mw h cI cZ σ) H → va_D A (mw h cI cZ σ) → va_S A s.heap H locs → W p l e R s m args below meth c H locs 0 0 Q (F0 m 52 ls []) := by
    intro n
    induction n with
    | zero => intro σ l1 ls H locs hf; exact absurd hf (by simp [FM_keep_52])
    | succ n ih =>
      intro σ l1 ls H locs hf hl hP hD hS
      rw [FM_keep_52] at hf
      refine lv_iload_n hx hb dX9_keep_52 rfl (lv_at hl 1 rfl) ?_
      refine lv_sipush (v := 147) hx hb dX9_keep_53 (by decide) ?_
      refine lv_icmp_ge (tgt := 86) hx hb dX9_keep_56 (by decide) (fun c8 => ?_) (fun c8 => ?_)
      · have hf := (if_pos c8).symm.trans hf
        refine lv_aload_n hx hb dX9_keep_86 rfl (lv_at hl 0 rfl) ?_
        refine lv_dup hx hb dX9_keep_87 rfl ?_
        refine Mg_9 S hin hK hP f183 dX9_keep_88 ?_
        refine lv_iconst (v := 1) hx hb dX9_keep_91 (by decide) ?_
        refine lv_iadd hx hb dX9_keep_92 ?_
        refine Mp_9 S hin hK hP hD hS f183 dX9_keep_93 (fun H locs hP hD hS => ?_)
        obtain ⟨σ9, eσ9, hf⟩ := nm_some hf
        rw [← eσ9] at hP hD
        exact hre _ _ _ _ _ hf hP hD hS dX9_keep_96
      · have hf := (if_neg c8).symm.trans hf
        refine lv_aload_n hx hb dX9_keep_59 rfl (lv_at hl 0 rfl) ?_
        refine Mg_8 S hin hK hP f25 dX9_keep_60 ?_
        refine lv_sipush (v := 147) hx hb dX9_keep_63 (by decide) ?_
        refine lv_aload_n hx hb dX9_keep_66 rfl (lv_at hl 0 rfl) ?_
        refine Mg_9 S hin hK hP f183 dX9_keep_67 ?_
        refine lv_imul hx hb dX9_keep_70 ?_
        refine lv_iload_n hx hb dX9_keep_71 rfl (lv_at hl 1 rfl) ?_
        refine lv_iadd hx hb dX9_keep_72 ?_
        refine lv_aload_n hx hb dX9_keep_73 rfl (lv_at hl 0 rfl) ?_
        refine Mg_5 S hin hK hP f19 dX9_keep_74 ?_
        refine lv_iload_n hx hb dX9_keep_77 rfl (lv_at hl 1 rfl) ?_
        obtain ⟨g10, hf⟩ := gd_some hf
        refine Ml_5 S hK hP g10 dX9_keep_78 ?_
        obtain ⟨g11, hf⟩ := gd_some hf
        refine Ms_8 S hK hP hD hS g11 dX9_keep_79 (fun H locs hP hD hS => ?_)
        obtain ⟨σ12, eσ12, hf⟩ := nm_some hf
        rw [← eσ12] at hP hD
        obtain ⟨x13, ex13, hf⟩ := nm_some hf
        refine lv_iinc (v := x13) (lv' := [(1, .int x13), (0, .ref (h 0))]) hx hb dX9_keep_80 hl (k := 1) rfl (by rw [ex13]; rfl) (by decide) rfl (fun ls hl => ?_)
        refine lv_goto (tgt := 52) hx hb dX9_keep_83 (by decide) ?_
        exact ih _ _ _ _ _ hf (lv_sub hl [1, 0] rfl) hP hD hS
  have b50 : ∀ (σ : MS) (ls : Array Slot) (H : Heap) (locs : List Loc), FM_keep_50 σ = some σ' → lv_has ls 2 [(0, .ref (h 0))] → va_P D vwCl (mw h cI cZ σ) H → va_D A (mw h cI cZ σ) → va_S A s.heap H locs → W p l e R s m args below meth c H locs 0 0 Q (F0 m 50 ls []) := by
    intro σ ls H locs hf hl hP hD hS
    unfold FM_keep_50 at hf
    refine lv_iconst (v := 0) hx hb dX9_keep_50 (by decide) ?_
    refine lv_istore_n (lv' := [(1, .int 0), (0, .ref (h 0))]) hx hb dX9_keep_51 rfl hl (by decide) rfl (fun ls hl => ?_)
    exact b52 fuelN _ _ _ _ _ hf (lv_sub hl [1, 0] rfl) hP hD hS
  have b11 : ∀ (n : Nat), ∀ (σ : MS) (l1 : Int32) (ls : Array Slot) (H : Heap) (locs : List Loc), FM_keep_11 n σ l1 = some σ' → lv_has ls 2 [(0, .ref (h 0)), (1, .int l1)] → va_P D vwCl (mw h cI cZ σ) H → va_D A (mw h cI cZ σ) → va_S A s.heap H locs → W p l e R s m args below meth c H locs 0 0 Q (F0 m 11 ls []) := by
    intro n
    induction n with
    | zero => intro σ l1 ls H locs hf; exact absurd hf (by simp [FM_keep_11])
    | succ n ih =>
      intro σ l1 ls H locs hf hl hP hD hS
      rw [FM_keep_11] at hf
      refine lv_iload_n hx hb dX9_keep_11 rfl (lv_at hl 1 rfl) ?_
      refine lv_sipush (v := 3381) hx hb dX9_keep_12 (by decide) ?_
      refine lv_icmp_ge (tgt := 40) hx hb dX9_keep_15 (by decide) (fun c2 => ?_) (fun c2 => ?_)
      · have hf := (if_pos c2).symm.trans hf
        refine lv_aload_n hx hb dX9_keep_40 rfl (lv_at hl 0 rfl) ?_
        refine lv_dup hx hb dX9_keep_41 rfl ?_
        refine Mg_9 S hin hK hP f183 dX9_keep_42 ?_
        refine lv_iconst (v := 1) hx hb dX9_keep_45 (by decide) ?_
        refine lv_isub hx hb dX9_keep_46 ?_
        refine Mp_9 S hin hK hP hD hS f183 dX9_keep_47 (fun H locs hP hD hS => ?_)
        obtain ⟨σ3, eσ3, hf⟩ := nm_some hf
        rw [← eσ3] at hP hD
        exact b50 _ _ _ _ hf (lv_sub hl [0] rfl) hP hD hS
      · have hf := (if_neg c2).symm.trans hf
        refine lv_aload_n hx hb dX9_keep_18 rfl (lv_at hl 0 rfl) ?_
        refine Mg_8 S hin hK hP f25 dX9_keep_19 ?_
        refine lv_iload_n hx hb dX9_keep_22 rfl (lv_at hl 1 rfl) ?_
        refine lv_aload_n hx hb dX9_keep_23 rfl (lv_at hl 0 rfl) ?_
        refine Mg_8 S hin hK hP f25 dX9_keep_24 ?_
        refine lv_iload_n hx hb dX9_keep_27 rfl (lv_at hl 1 rfl) ?_
        refine lv_sipush (v := 147) hx hb dX9_keep_28 (by decide) ?_
        refine lv_iadd hx hb dX9_keep_31 ?_
        obtain ⟨g4, hf⟩ := gd_some hf
        refine Ml_8 S hK hP g4 dX9_keep_32 ?_
        obtain ⟨g5, hf⟩ := gd_some hf
        refine Ms_8 S hK hP hD hS g5 dX9_keep_33 (fun H locs hP hD hS => ?_)
        obtain ⟨σ6, eσ6, hf⟩ := nm_some hf
        rw [← eσ6] at hP hD
        obtain ⟨x7, ex7, hf⟩ := nm_some hf
        refine lv_iinc (v := x7) (lv' := [(1, .int x7), (0, .ref (h 0))]) hx hb dX9_keep_34 hl (k := 1) rfl (by rw [ex7]; rfl) (by decide) rfl (fun ls hl => ?_)
        refine lv_goto (tgt := 11) hx hb dX9_keep_37 (by decide) ?_
        exact ih _ _ _ _ _ hf (lv_sub hl [1, 0] rfl) hP hD hS
  unfold FM_keep at hf
  refine lv_aload_n hx hb dX9_keep_0 rfl (lv_at hl 0 rfl) ?_
  refine Mg_9 S hin hK hP f183 dX9_keep_1 ?_
  refine lv_bipush (v := 24) hx hb dX9_keep_4 (by decide) ?_
  refine lv_icmp_ne (tgt := 50) hx hb dX9_keep_6 (by decide) (fun c1 => ?_) (fun c1 => ?_)
  · have hf := (if_neg c1).symm.trans hf
    exact b50 _ _ _ _ hf (lv_sub hl [0] rfl) hP hD hS
  · have hf := (if_pos c1).symm.trans hf
    refine lv_iconst (v := 0) hx hb dX9_keep_9 (by decide) ?_
    refine lv_istore_n (lv' := [(1, .int 0), (0, .ref (h 0))]) hx hb dX9_keep_10 rfl hl (by decide) rfl (fun ls hl => ?_)
    exact b11 fuelN _ _ _ _ _ hf (lv_sub hl [1, 0] rfl) hP hD hS
def FM_pass (σ : MS) (a1 : Int32) (a2 : Int32) : Option (Int32 × MS) :=
  nm (setF σ 0 0) fun (σ1 : MS) => Option.bind (FM_isCoin σ1 a1) fun (r2 : Int32) => if r2 = 0 then (some ((-1000001), σ1)) else (Option.bind (FM_isHolder σ1 a2) fun (r4 : Int32) => if r4 = 0 then (some ((-1000001), σ1)) else (Option.bind (FM_of σ1 a1 1) fun (r6 : Int32) => if r6 = a2 then (some ((-1000001), σ1)) else (Option.bind (FM_of σ1 a1 3) fun (r8 : Int32) => if r8 = 0 then (gd (¬ (((69 + a2) : Int32) < 0 ∨ 147 ≤ Int32.toNatClampNeg (69 + a2))) (Option.bind (FM_townOf σ1 a1) fun (r11 : Int32) => if (σ1.2 5 (Int32.toNatClampNeg (69 + a2))) = r11 then (Option.bind (FM_keep σ1) fun (σ14 : MS) => Option.bind (FM_of σ14 a1 1) fun (r15 : Int32) => Option.bind (FM_becomes σ14 a1 1 a2) fun (σ17 : MS) => some (r15, σ17)) else (some ((-1000002), σ1)))) else (some ((-1000002), σ1)))))
set_option maxHeartbeats 4000000 in
set_option maxRecDepth 100000 in
theorem kM_pass (l : Launch) (D : va_G) (h : Nat → Nat) (cI cZ : ClassId) (σ : MS) (a1 : Int32) (a2 : Int32) (r : Int32) (σ' : MS) (hf : FM_pass σ a1 a2 = some (r, σ')) : KK l D [(cI, .int), (cZ, .boolean)] yX9_pass wsX9_pass 2 46 [.ref (h 0), .int a1, .int a2] (mw h cI cZ σ) (some (.int r)) (mw h cI cZ σ') := by
  refine KK.ofI (own := RX9) (cc := cX9_pass) (maxL := 4) (by decide) rfl rfl (Nat.le_of_ble_eq_true rfl) ?_
  intro p e s m args below meth c R Q A ls S hRf hRl hK hA hP hD hS hl hret
  obtain ⟨hx, hb, hml, hown, hts⟩ := id S
  have hin : ∀ w ∈ wsX90, w ∈ wsX9_pass := fun w hw => List.mem_cons_of_mem _ (List.mem_append_right _ hw)
  have f47 := hts (.fieldLink RX9 47 "PenniesAwayModel" "thrown" "I") (by decide +kernel)
  have c67 := hts (.constant RX9 67 (-1000001)) (by decide +kernel)
  have c210 := hts (.constant RX9 210 (-1000002)) (by decide +kernel)
  have f19 := hts (.fieldLink RX9 19 "PenniesAwayModel" "realm" "[I") (by decide +kernel)
  have hl : lv_has ls 4 [(0, .ref (h 0)), (1, .int a1), (2, .int a2)] := hl
  have hre : ∀ (x : Int32) (σx : MS) (pc : Nat) (ls : Array Slot) (H : Heap) (locs : List Loc), (some (x, σx) : Option (Int32 × MS)) = some (r, σ') → va_P D vwCl (mw h cI cZ σx) H → va_D A (mw h cI cZ σx) → va_S A s.heap H locs → decode cX9_pass pc = .ok (.ireturn, 1) → W p l e R s m args below meth c H locs 0 0 Q (F0 m pc ls [.int x]) := by intro x σx pc ls H locs he; cases he; exact hret pc ls H locs
  unfold FM_pass at hf
  refine lv_aload_n hx hb dX9_pass_0 rfl (lv_at hl 0 rfl) ?_
  refine lv_iconst (v := 0) hx hb dX9_pass_1 (by decide) ?_
  refine Mp_0 S hin hK hP hD hS f47 dX9_pass_2 (fun H locs hP hD hS => ?_)
  obtain ⟨σ1, eσ1, hf⟩ := nm_some hf
  rw [← eσ1] at hP hD
  refine lv_aload_n hx hb dX9_pass_5 rfl (lv_at hl 0 rfl) ?_
  refine lv_iload_n hx hb dX9_pass_6 rfl (lv_at hl 1 rfl) ?_
  obtain ⟨r2, hr2, hf⟩ := bi_some hf
  refine kc_v (ci := 8) (q0 := 0) (n := 1) S hRf hRl hK hA hP hD hS hl [.int a1] [] (kM_isCoin l D h cI cZ σ1 a1 r2 hr2) gX9_pass_X9_isCoin rfl (by decide +kernel) rfl ⟨by decide, by decide⟩ rfl rfl rfl rfl (Nat.le_of_ble_eq_true rfl) dX9_pass_7 (fun H locs hP hD hS => ?_)
  refine W.eq (g2 := F0 m 10 ls [.int r2]) rfl ?_
  refine lv_if_eq (tgt := 31) hx hb dX9_pass_10 (by decide) (fun c3 => ?_) (fun c3 => ?_)
  · have hf := (if_pos c3).symm.trans hf
    refine lv_ldc (v := (-1000001)) hx hb hown c67 dX9_pass_31 ?_
    exact hre _ _ _ _ _ _ hf hP hD hS dX9_pass_33
  · have hf := (if_neg c3).symm.trans hf
    refine lv_aload_n hx hb dX9_pass_13 rfl (lv_at hl 0 rfl) ?_
    refine lv_iload_n hx hb dX9_pass_14 rfl (lv_at hl 2 rfl) ?_
    obtain ⟨r4, hr4, hf⟩ := bi_some hf
    refine kc_v (ci := 8) (q0 := 0) (n := 1) S hRf hRl hK hA hP hD hS hl [.int a2] [] (kM_isHolder l D h cI cZ σ1 a2 r4 hr4) gX9_pass_X9_isHolder rfl (by decide +kernel) rfl ⟨by decide, by decide⟩ rfl rfl rfl rfl (Nat.le_of_ble_eq_true rfl) dX9_pass_15 (fun H locs hP hD hS => ?_)
    refine W.eq (g2 := F0 m 18 ls [.int r4]) rfl ?_
    refine lv_if_eq (tgt := 31) hx hb dX9_pass_18 (by decide) (fun c5 => ?_) (fun c5 => ?_)
    · have hf := (if_pos c5).symm.trans hf
      refine lv_ldc (v := (-1000001)) hx hb hown c67 dX9_pass_31 ?_
      exact hre _ _ _ _ _ _ hf hP hD hS dX9_pass_33
    · have hf := (if_neg c5).symm.trans hf
      refine lv_aload_n hx hb dX9_pass_21 rfl (lv_at hl 0 rfl) ?_
      refine lv_iload_n hx hb dX9_pass_22 rfl (lv_at hl 1 rfl) ?_
      refine lv_iconst (v := 1) hx hb dX9_pass_23 (by decide) ?_
      obtain ⟨r6, hr6, hf⟩ := bi_some hf
      refine kc_v (ci := 8) (q0 := 0) (n := 2) S hRf hRl hK hA hP hD hS hl [.int a1, .int 1] [] (kM_of l D h cI cZ σ1 a1 1 r6 hr6) gX9_pass_X9_of rfl (by decide +kernel) rfl ⟨by decide, by decide⟩ rfl rfl rfl rfl (Nat.le_of_ble_eq_true rfl) dX9_pass_24 (fun H locs hP hD hS => ?_)
      refine W.eq (g2 := F0 m 27 ls [.int r6]) rfl ?_
      refine lv_iload_n hx hb dX9_pass_27 rfl (lv_at hl 2 rfl) ?_
      refine lv_icmp_ne (tgt := 34) hx hb dX9_pass_28 (by decide) (fun c7 => ?_) (fun c7 => ?_)
      · have hf := (if_neg c7).symm.trans hf
        refine lv_aload_n hx hb dX9_pass_34 rfl (lv_at hl 0 rfl) ?_
        refine lv_iload_n hx hb dX9_pass_35 rfl (lv_at hl 1 rfl) ?_
        refine lv_iconst (v := 3) hx hb dX9_pass_36 (by decide) ?_
        obtain ⟨r8, hr8, hf⟩ := bi_some hf
        refine kc_v (ci := 8) (q0 := 0) (n := 2) S hRf hRl hK hA hP hD hS hl [.int a1, .int 3] [] (kM_of l D h cI cZ σ1 a1 3 r8 hr8) gX9_pass_X9_of rfl (by decide +kernel) rfl ⟨by decide, by decide⟩ rfl rfl rfl rfl (Nat.le_of_ble_eq_true rfl) dX9_pass_37 (fun H locs hP hD hS => ?_)
        refine W.eq (g2 := F0 m 40 ls [.int r8]) rfl ?_
        refine lv_if_ne (tgt := 60) hx hb dX9_pass_40 (by decide) (fun c9 => ?_) (fun c9 => ?_)
        · have hf := (if_neg c9).symm.trans hf
          refine lv_ldc (v := (-1000002)) hx hb hown c210 dX9_pass_60 ?_
          exact hre _ _ _ _ _ _ hf hP hD hS dX9_pass_62
        · have hf := (if_pos c9).symm.trans hf
          refine lv_aload_n hx hb dX9_pass_43 rfl (lv_at hl 0 rfl) ?_
          refine Mg_5 S hin hK hP f19 dX9_pass_44 ?_
          refine lv_bipush (v := 69) hx hb dX9_pass_47 (by decide) ?_
          refine lv_iload_n hx hb dX9_pass_49 rfl (lv_at hl 2 rfl) ?_
          refine lv_iadd hx hb dX9_pass_50 ?_
          obtain ⟨g10, hf⟩ := gd_some hf
          refine Ml_5 S hK hP g10 dX9_pass_51 ?_
          refine lv_aload_n hx hb dX9_pass_52 rfl (lv_at hl 0 rfl) ?_
          refine lv_iload_n hx hb dX9_pass_53 rfl (lv_at hl 1 rfl) ?_
          obtain ⟨r11, hr11, hf⟩ := bi_some hf
          refine kc_v (ci := 8) (q0 := 0) (n := 1) S hRf hRl hK hA hP hD hS hl [.int a1] [.int (σ1.2 5 (Int32.toNatClampNeg (69 + a2)))] (kM_townOf l D h cI cZ σ1 a1 r11 hr11) gX9_pass_X9_townOf rfl (by decide +kernel) rfl ⟨by decide, by decide⟩ rfl rfl rfl rfl (Nat.le_of_ble_eq_true rfl) dX9_pass_54 (fun H locs hP hD hS => ?_)
          refine W.eq (g2 := F0 m 57 ls [.int r11, .int (σ1.2 5 (Int32.toNatClampNeg (69 + a2)))]) rfl ?_
          refine lv_icmp_eq (tgt := 63) hx hb dX9_pass_57 (by decide) (fun c12 => ?_) (fun c12 => ?_)
          · have hf := (if_pos c12).symm.trans hf
            refine lv_aload_n hx hb dX9_pass_63 rfl (lv_at hl 0 rfl) ?_
            obtain ⟨σ14, hr13, hf⟩ := bi_some hf
            refine kc_v (ci := 8) (q0 := 0) (n := 0) S hRf hRl hK hA hP hD hS hl [] [] (kM_keep l D h cI cZ σ1  σ14 hr13) gX9_pass_X9_keep rfl (by decide +kernel) rfl ⟨by decide, by decide⟩ rfl rfl rfl rfl (Nat.le_of_ble_eq_true rfl) dX9_pass_64 (fun H locs hP hD hS => ?_)
            refine W.eq (g2 := F0 m 67 ls []) rfl ?_
            refine lv_aload_n hx hb dX9_pass_67 rfl (lv_at hl 0 rfl) ?_
            refine lv_iload_n hx hb dX9_pass_68 rfl (lv_at hl 1 rfl) ?_
            refine lv_iconst (v := 1) hx hb dX9_pass_69 (by decide) ?_
            obtain ⟨r15, hr15, hf⟩ := bi_some hf
            refine kc_v (ci := 8) (q0 := 0) (n := 2) S hRf hRl hK hA hP hD hS hl [.int a1, .int 1] [] (kM_of l D h cI cZ σ14 a1 1 r15 hr15) gX9_pass_X9_of rfl (by decide +kernel) rfl ⟨by decide, by decide⟩ rfl rfl rfl rfl (Nat.le_of_ble_eq_true rfl) dX9_pass_70 (fun H locs hP hD hS => ?_)
            refine W.eq (g2 := F0 m 73 ls [.int r15]) rfl ?_
            refine lv_istore_n (lv' := [(3, .int r15), (0, .ref (h 0)), (1, .int a1), (2, .int a2)]) hx hb dX9_pass_73 rfl hl (by decide) rfl (fun ls hl => ?_)
            refine lv_aload_n hx hb dX9_pass_74 rfl (lv_at hl 1 rfl) ?_
            refine lv_iload_n hx hb dX9_pass_75 rfl (lv_at hl 2 rfl) ?_
            refine lv_iconst (v := 1) hx hb dX9_pass_76 (by decide) ?_
            refine lv_iload_n hx hb dX9_pass_77 rfl (lv_at hl 3 rfl) ?_
            obtain ⟨σ17, hr16, hf⟩ := bi_some hf
            refine kc_v (ci := 8) (q0 := 0) (n := 3) S hRf hRl hK hA hP hD hS hl [.int a1, .int 1, .int a2] [] (kM_becomes l D h cI cZ σ14 a1 1 a2 σ17 hr16) gX9_pass_X9_becomes rfl (by decide +kernel) rfl ⟨by decide, by decide⟩ rfl rfl rfl rfl (Nat.le_of_ble_eq_true rfl) dX9_pass_78 (fun H locs hP hD hS => ?_)
            refine W.eq (g2 := F0 m 81 ls []) rfl ?_
            refine lv_iload_n hx hb dX9_pass_81 rfl (lv_at hl 0 rfl) ?_
            exact hre _ _ _ _ _ _ hf hP hD hS dX9_pass_82
          · have hf := (if_neg c12).symm.trans hf
            refine lv_ldc (v := (-1000002)) hx hb hown c210 dX9_pass_60 ?_
            exact hre _ _ _ _ _ _ hf hP hD hS dX9_pass_62
      · have hf := (if_pos c7).symm.trans hf
        refine lv_ldc (v := (-1000001)) hx hb hown c67 dX9_pass_31 ?_
        exact hre _ _ _ _ _ _ hf hP hD hS dX9_pass_33
def FM_maySend (σ : MS) (a1 : Int32) : Option Int32 :=
  Option.bind (FM_of σ a1 3) fun (r1 : Int32) => if r1 = 0 then (Option.bind (FM_townOf σ a1) fun (r3 : Int32) => Option.bind (FM_farOf σ r3 0) fun (r4 : Int32) => if 10000 ≤ r4 then (some 0) else (some 1)) else (some 0)
set_option maxHeartbeats 4000000 in
set_option maxRecDepth 100000 in
theorem kM_maySend (l : Launch) (D : va_G) (h : Nat → Nat) (cI cZ : ClassId) (σ : MS) (a1 : Int32) (r : Int32) (hf : FM_maySend σ a1 = some r) : KK l D [(cI, .int), (cZ, .boolean)] yX9_maySend wsX9_maySend 2 43 [.ref (h 0), .int a1] (mw h cI cZ σ) (some (.int r)) (mw h cI cZ σ) := by
  refine KK.ofZ (own := RX9) (cc := cX9_maySend) (maxL := 2) (by decide) rfl rfl (Nat.le_of_ble_eq_true rfl) ?_
  intro p e s m args below meth c R Q A ls S hRf hRl hK hA hP hD hS hl hret
  obtain ⟨hx, hb, hml, hown, hts⟩ := id S
  have hin : ∀ w ∈ wsX90, w ∈ wsX9_maySend := fun w hw => List.mem_cons_of_mem _ (List.mem_append_right _ hw)
  have hl : lv_has ls 2 [(0, .ref (h 0)), (1, .int a1)] := hl
  have hre : ∀ (x : Int32) (pc : Nat) (ls : Array Slot) (H : Heap) (locs : List Loc), (some x : Option Int32) = some r → va_P D vwCl (mw h cI cZ σ) H → va_D A (mw h cI cZ σ) → va_S A s.heap H locs → decode cX9_maySend pc = .ok (.ireturn, 1) → narrow .boolean (.int x) = .int x → W p l e R s m args below meth c H locs 0 0 Q (F0 m pc ls [.int x]) := by intro x pc ls H locs he; cases he; exact hret pc ls H locs
  unfold FM_maySend at hf
  refine lv_aload_n hx hb dX9_maySend_0 rfl (lv_at hl 0 rfl) ?_
  refine lv_iload_n hx hb dX9_maySend_1 rfl (lv_at hl 1 rfl) ?_
  refine lv_iconst (v := 3) hx hb dX9_maySend_2 (by decide) ?_
  obtain ⟨r1, hr1, hf⟩ := bi_some hf
  refine kc_v (ci := 8) (q0 := 0) (n := 2) S hRf hRl hK hA hP hD hS hl [.int a1, .int 3] [] (kM_of l D h cI cZ σ a1 3 r1 hr1) gX9_maySend_X9_of rfl (by decide +kernel) rfl ⟨by decide, by decide⟩ rfl rfl rfl rfl (Nat.le_of_ble_eq_true rfl) dX9_maySend_3 (fun H locs hP hD hS => ?_)
  refine W.eq (g2 := F0 m 6 ls [.int r1]) rfl ?_
  refine lv_if_ne (tgt := 29) hx hb dX9_maySend_6 (by decide) (fun c2 => ?_) (fun c2 => ?_)
  · have hf := (if_neg c2).symm.trans hf
    refine lv_iconst (v := 0) hx hb dX9_maySend_29 (by decide) ?_
    exact hre _ _ _ _ _ hf hP hD hS dX9_maySend_30 rfl
  · have hf := (if_pos c2).symm.trans hf
    refine lv_aload_n hx hb dX9_maySend_9 rfl (lv_at hl 0 rfl) ?_
    refine lv_aload_n hx hb dX9_maySend_10 rfl (lv_at hl 0 rfl) ?_
    refine lv_iload_n hx hb dX9_maySend_11 rfl (lv_at hl 1 rfl) ?_
    obtain ⟨r3, hr3, hf⟩ := bi_some hf
    refine kc_v (ci := 8) (q0 := 0) (n := 1) S hRf hRl hK hA hP hD hS hl [.int a1] [.ref (h 0)] (kM_townOf l D h cI cZ σ a1 r3 hr3) gX9_maySend_X9_townOf rfl (by decide +kernel) rfl ⟨by decide, by decide⟩ rfl rfl rfl rfl (Nat.le_of_ble_eq_true rfl) dX9_maySend_12 (fun H locs hP hD hS => ?_)
    refine W.eq (g2 := F0 m 15 ls [.int r3, .ref (h 0)]) rfl ?_
    refine lv_iconst (v := 0) hx hb dX9_maySend_15 (by decide) ?_
    obtain ⟨r4, hr4, hf⟩ := bi_some hf
    refine kc_v (ci := 8) (q0 := 0) (n := 2) S hRf hRl hK hA hP hD hS hl [.int r3, .int 0] [] (kM_farOf l D h cI cZ σ r3 0 r4 hr4) gX9_maySend_X9_farOf rfl (by decide +kernel) rfl ⟨by decide, by decide⟩ rfl rfl rfl rfl (Nat.le_of_ble_eq_true rfl) dX9_maySend_16 (fun H locs hP hD hS => ?_)
    refine W.eq (g2 := F0 m 19 ls [.int r4]) rfl ?_
    refine lv_sipush (v := 10000) hx hb dX9_maySend_19 (by decide) ?_
    refine lv_icmp_ge (tgt := 29) hx hb dX9_maySend_22 (by decide) (fun c5 => ?_) (fun c5 => ?_)
    · have hf := (if_pos c5).symm.trans hf
      refine lv_iconst (v := 0) hx hb dX9_maySend_29 (by decide) ?_
      exact hre _ _ _ _ _ hf hP hD hS dX9_maySend_30 rfl
    · have hf := (if_neg c5).symm.trans hf
      refine lv_iconst (v := 1) hx hb dX9_maySend_25 (by decide) ?_
      refine lv_goto (tgt := 30) hx hb dX9_maySend_26 (by decide) ?_
      exact hre _ _ _ _ _ hf hP hD hS dX9_maySend_30 rfl
def FM_sends (σ : MS) (a1 : Int32) : Option MS :=
  Option.bind (FM_keep σ) fun (σ2 : MS) => Option.bind (FM_becomes σ2 a1 3 1) fun (σ4 : MS) => Option.bind (FM_townOf σ4 a1) fun (r5 : Int32) => Option.bind (FM_farOf σ4 r5 0) fun (r6 : Int32) => Option.bind (FM_becomes σ4 a1 4 r6) fun (σ8 : MS) => some σ8
set_option maxHeartbeats 4000000 in
set_option maxRecDepth 100000 in
theorem kM_sends (l : Launch) (D : va_G) (h : Nat → Nat) (cI cZ : ClassId) (σ : MS) (a1 : Int32)  (σ' : MS) (hf : FM_sends σ a1 = some σ') : KK l D [(cI, .int), (cZ, .boolean)] yX9_sends wsX9_sends 2 43 [.ref (h 0), .int a1] (mw h cI cZ σ) none (mw h cI cZ σ') := by
  refine KK.ofV (own := RX9) (cc := cX9_sends) (maxL := 2) (by decide) rfl rfl (Nat.le_of_ble_eq_true rfl) ?_
  intro p e s m args below meth c R Q A ls S hRf hRl hK hA hP hD hS hl hret
  obtain ⟨hx, hb, hml, hown, hts⟩ := id S
  have hin : ∀ w ∈ wsX90, w ∈ wsX9_sends := fun w hw => List.mem_cons_of_mem _ (List.mem_append_right _ hw)
  have hl : lv_has ls 2 [(0, .ref (h 0)), (1, .int a1)] := hl
  have hre : ∀ (σx : MS) (pc : Nat) (ls : Array Slot) (H : Heap) (locs : List Loc), (some σx : Option MS) = some σ' → va_P D vwCl (mw h cI cZ σx) H → va_D A (mw h cI cZ σx) → va_S A s.heap H locs → decode cX9_sends pc = .ok (.return_, 1) → W p l e R s m args below meth c H locs 0 0 Q (F0 m pc ls []) := by intro σx pc ls H locs he; cases he; exact hret pc ls H locs
  unfold FM_sends at hf
  refine lv_aload_n hx hb dX9_sends_0 rfl (lv_at hl 0 rfl) ?_
  obtain ⟨σ2, hr1, hf⟩ := bi_some hf
  refine kc_v (ci := 8) (q0 := 0) (n := 0) S hRf hRl hK hA hP hD hS hl [] [] (kM_keep l D h cI cZ σ  σ2 hr1) gX9_sends_X9_keep rfl (by decide +kernel) rfl ⟨by decide, by decide⟩ rfl rfl rfl rfl (Nat.le_of_ble_eq_true rfl) dX9_sends_1 (fun H locs hP hD hS => ?_)
  refine W.eq (g2 := F0 m 4 ls []) rfl ?_
  refine lv_aload_n hx hb dX9_sends_4 rfl (lv_at hl 0 rfl) ?_
  refine lv_iload_n hx hb dX9_sends_5 rfl (lv_at hl 1 rfl) ?_
  refine lv_iconst (v := 3) hx hb dX9_sends_6 (by decide) ?_
  refine lv_iconst (v := 1) hx hb dX9_sends_7 (by decide) ?_
  obtain ⟨σ4, hr3, hf⟩ := bi_some hf
  refine kc_v (ci := 8) (q0 := 0) (n := 3) S hRf hRl hK hA hP hD hS hl [.int a1, .int 3, .int 1] [] (kM_becomes l D h cI cZ σ2 a1 3 1 σ4 hr3) gX9_sends_X9_becomes rfl (by decide +kernel) rfl ⟨by decide, by decide⟩ rfl rfl rfl rfl (Nat.le_of_ble_eq_true rfl) dX9_sends_8 (fun H locs hP hD hS => ?_)
  refine W.eq (g2 := F0 m 11 ls []) rfl ?_
  refine lv_aload_n hx hb dX9_sends_11 rfl (lv_at hl 0 rfl) ?_
  refine lv_iload_n hx hb dX9_sends_12 rfl (lv_at hl 1 rfl) ?_
  refine lv_iconst (v := 4) hx hb dX9_sends_13 (by decide) ?_
  refine lv_aload_n hx hb dX9_sends_14 rfl (lv_at hl 0 rfl) ?_
  refine lv_aload_n hx hb dX9_sends_15 rfl (lv_at hl 0 rfl) ?_
  refine lv_iload_n hx hb dX9_sends_16 rfl (lv_at hl 1 rfl) ?_
  obtain ⟨r5, hr5, hf⟩ := bi_some hf
  refine kc_v (ci := 8) (q0 := 0) (n := 1) S hRf hRl hK hA hP hD hS hl [.int a1] [.ref (h 0), .int 4, .int a1, .ref (h 0)] (kM_townOf l D h cI cZ σ4 a1 r5 hr5) gX9_sends_X9_townOf rfl (by decide +kernel) rfl ⟨by decide, by decide⟩ rfl rfl rfl rfl (Nat.le_of_ble_eq_true rfl) dX9_sends_17 (fun H locs hP hD hS => ?_)
  refine W.eq (g2 := F0 m 20 ls [.int r5, .ref (h 0), .int 4, .int a1, .ref (h 0)]) rfl ?_
  refine lv_iconst (v := 0) hx hb dX9_sends_20 (by decide) ?_
  obtain ⟨r6, hr6, hf⟩ := bi_some hf
  refine kc_v (ci := 8) (q0 := 0) (n := 2) S hRf hRl hK hA hP hD hS hl [.int r5, .int 0] [.int 4, .int a1, .ref (h 0)] (kM_farOf l D h cI cZ σ4 r5 0 r6 hr6) gX9_sends_X9_farOf rfl (by decide +kernel) rfl ⟨by decide, by decide⟩ rfl rfl rfl rfl (Nat.le_of_ble_eq_true rfl) dX9_sends_21 (fun H locs hP hD hS => ?_)
  refine W.eq (g2 := F0 m 24 ls [.int r6, .int 4, .int a1, .ref (h 0)]) rfl ?_
  obtain ⟨σ8, hr7, hf⟩ := bi_some hf
  refine kc_v (ci := 8) (q0 := 0) (n := 3) S hRf hRl hK hA hP hD hS hl [.int a1, .int 4, .int r6] [] (kM_becomes l D h cI cZ σ4 a1 4 r6 σ8 hr7) gX9_sends_X9_becomes rfl (by decide +kernel) rfl ⟨by decide, by decide⟩ rfl rfl rfl rfl (Nat.le_of_ble_eq_true rfl) dX9_sends_24 (fun H locs hP hD hS => ?_)
  refine W.eq (g2 := F0 m 27 ls []) rfl ?_
  exact hre _ _ _ _ _ hf hP hD hS dX9_sends_27
def FM_send (σ : MS) (a1 : Int32) : Option (Int32 × MS) :=
  nm (setF σ 0 0) fun (σ1 : MS) => Option.bind (FM_isCoin σ1 a1) fun (r2 : Int32) => if r2 = 0 then (some ((-1000001), σ1)) else (Option.bind (FM_maySend σ1 a1) fun (r4 : Int32) => if r4 = 0 then (some ((-1000002), σ1)) else (Option.bind (FM_sends σ1 a1) fun (σ7 : MS) => Option.bind (FM_of σ7 a1 4) fun (r8 : Int32) => some (r8, σ7)))
set_option maxHeartbeats 4000000 in
set_option maxRecDepth 100000 in
theorem kM_send (l : Launch) (D : va_G) (h : Nat → Nat) (cI cZ : ClassId) (σ : MS) (a1 : Int32) (r : Int32) (σ' : MS) (hf : FM_send σ a1 = some (r, σ')) : KK l D [(cI, .int), (cZ, .boolean)] yX9_send wsX9_send 3 64 [.ref (h 0), .int a1] (mw h cI cZ σ) (some (.int r)) (mw h cI cZ σ') := by
  refine KK.ofI (own := RX9) (cc := cX9_send) (maxL := 2) (by decide) rfl rfl (Nat.le_of_ble_eq_true rfl) ?_
  intro p e s m args below meth c R Q A ls S hRf hRl hK hA hP hD hS hl hret
  obtain ⟨hx, hb, hml, hown, hts⟩ := id S
  have hin : ∀ w ∈ wsX90, w ∈ wsX9_send := fun w hw => List.mem_cons_of_mem _ (List.mem_append_right _ hw)
  have f47 := hts (.fieldLink RX9 47 "PenniesAwayModel" "thrown" "I") (by decide +kernel)
  have c210 := hts (.constant RX9 210 (-1000002)) (by decide +kernel)
  have c67 := hts (.constant RX9 67 (-1000001)) (by decide +kernel)
  have hl : lv_has ls 2 [(0, .ref (h 0)), (1, .int a1)] := hl
  have hre : ∀ (x : Int32) (σx : MS) (pc : Nat) (ls : Array Slot) (H : Heap) (locs : List Loc), (some (x, σx) : Option (Int32 × MS)) = some (r, σ') → va_P D vwCl (mw h cI cZ σx) H → va_D A (mw h cI cZ σx) → va_S A s.heap H locs → decode cX9_send pc = .ok (.ireturn, 1) → W p l e R s m args below meth c H locs 0 0 Q (F0 m pc ls [.int x]) := by intro x σx pc ls H locs he; cases he; exact hret pc ls H locs
  unfold FM_send at hf
  refine lv_aload_n hx hb dX9_send_0 rfl (lv_at hl 0 rfl) ?_
  refine lv_iconst (v := 0) hx hb dX9_send_1 (by decide) ?_
  refine Mp_0 S hin hK hP hD hS f47 dX9_send_2 (fun H locs hP hD hS => ?_)
  obtain ⟨σ1, eσ1, hf⟩ := nm_some hf
  rw [← eσ1] at hP hD
  refine lv_aload_n hx hb dX9_send_5 rfl (lv_at hl 0 rfl) ?_
  refine lv_iload_n hx hb dX9_send_6 rfl (lv_at hl 1 rfl) ?_
  obtain ⟨r2, hr2, hf⟩ := bi_some hf
  refine kc_v (ci := 8) (q0 := 0) (n := 1) S hRf hRl hK hA hP hD hS hl [.int a1] [] (kM_isCoin l D h cI cZ σ1 a1 r2 hr2) gX9_send_X9_isCoin rfl (by decide +kernel) rfl ⟨by decide, by decide⟩ rfl rfl rfl rfl (Nat.le_of_ble_eq_true rfl) dX9_send_7 (fun H locs hP hD hS => ?_)
  refine W.eq (g2 := F0 m 10 ls [.int r2]) rfl ?_
  refine lv_if_ne (tgt := 16) hx hb dX9_send_10 (by decide) (fun c3 => ?_) (fun c3 => ?_)
  · have hf := (if_neg c3).symm.trans hf
    refine lv_aload_n hx hb dX9_send_16 rfl (lv_at hl 0 rfl) ?_
    refine lv_iload_n hx hb dX9_send_17 rfl (lv_at hl 1 rfl) ?_
    obtain ⟨r4, hr4, hf⟩ := bi_some hf
    refine kc_v (ci := 8) (q0 := 0) (n := 1) S hRf hRl hK hA hP hD hS hl [.int a1] [] (kM_maySend l D h cI cZ σ1 a1 r4 hr4) gX9_send_X9_maySend rfl (by decide +kernel) rfl ⟨by decide, by decide⟩ rfl rfl rfl rfl (Nat.le_of_ble_eq_true rfl) dX9_send_18 (fun H locs hP hD hS => ?_)
    refine W.eq (g2 := F0 m 21 ls [.int r4]) rfl ?_
    refine lv_if_ne (tgt := 27) hx hb dX9_send_21 (by decide) (fun c5 => ?_) (fun c5 => ?_)
    · have hf := (if_neg c5).symm.trans hf
      refine lv_aload_n hx hb dX9_send_27 rfl (lv_at hl 0 rfl) ?_
      refine lv_iload_n hx hb dX9_send_28 rfl (lv_at hl 1 rfl) ?_
      obtain ⟨σ7, hr6, hf⟩ := bi_some hf
      refine kc_v (ci := 8) (q0 := 0) (n := 1) S hRf hRl hK hA hP hD hS hl [.int a1] [] (kM_sends l D h cI cZ σ1 a1 σ7 hr6) gX9_send_X9_sends rfl (by decide +kernel) rfl ⟨by decide, by decide⟩ rfl rfl rfl rfl (Nat.le_of_ble_eq_true rfl) dX9_send_29 (fun H locs hP hD hS => ?_)
      refine W.eq (g2 := F0 m 32 ls []) rfl ?_
      refine lv_aload_n hx hb dX9_send_32 rfl (lv_at hl 0 rfl) ?_
      refine lv_iload_n hx hb dX9_send_33 rfl (lv_at hl 1 rfl) ?_
      refine lv_iconst (v := 4) hx hb dX9_send_34 (by decide) ?_
      obtain ⟨r8, hr8, hf⟩ := bi_some hf
      refine kc_v (ci := 8) (q0 := 0) (n := 2) S hRf hRl hK hA hP hD hS hl [.int a1, .int 4] [] (kM_of l D h cI cZ σ7 a1 4 r8 hr8) gX9_send_X9_of rfl (by decide +kernel) rfl ⟨by decide, by decide⟩ rfl rfl rfl rfl (Nat.le_of_ble_eq_true rfl) dX9_send_35 (fun H locs hP hD hS => ?_)
      refine W.eq (g2 := F0 m 38 ls [.int r8]) rfl ?_
      exact hre _ _ _ _ _ _ hf hP hD hS dX9_send_38
    · have hf := (if_pos c5).symm.trans hf
      refine lv_ldc (v := (-1000002)) hx hb hown c210 dX9_send_24 ?_
      exact hre _ _ _ _ _ _ hf hP hD hS dX9_send_26
  · have hf := (if_pos c3).symm.trans hf
    refine lv_ldc (v := (-1000001)) hx hb hown c67 dX9_send_13 ?_
    exact hre _ _ _ _ _ _ hf hP hD hS dX9_send_15
def FM_sendAll_72 (σ : MS) : Option (Int32 × MS) :=
  bd2 (FM_finding σ 2) fun (r29 : Int32) (σ30 : MS) => some (r29, σ30)
def FM_sendAll_176 (ag128 : MS → Int32 → Int32 → Int32 → Int32 → Int32 → Option (Int32 × MS)) (σ : MS) (l1 : Int32) (l2 : Int32) (l3 : Int32) (l4 : Int32) (l5 : Int32) : Option (Int32 × MS) :=
  nm (l5 + 1) fun (x28 : Int32) => ag128 σ l1 l2 l3 l4 x28
def FM_sendAll_128  : Nat → MS → Int32 → Int32 → Int32 → Int32 → Int32 → Option (Int32 × MS)
  | 0, _, _, _, _, _, _ => none
  | n + 1, σ, l1, l2, l3, l4, l5 => if l3 ≤ l5 then (some (l4, σ)) else (gd (¬ (((((40 * l1) + l2) + l5) : Int32) < 0 ∨ 320 ≤ Int32.toNatClampNeg (((40 * l1) + l2) + l5))) (Option.bind (FM_maySend σ (σ.2 4 (Int32.toNatClampNeg (((40 * l1) + l2) + l5)))) fun (r22 : Int32) => if r22 = 0 then (FM_sendAll_176 (FM_sendAll_128 n) σ l1 l2 l3 l4 l5) else (gd (¬ (((((40 * l1) + l2) + l5) : Int32) < 0 ∨ 320 ≤ Int32.toNatClampNeg (((40 * l1) + l2) + l5))) (Option.bind (FM_sends σ (σ.2 4 (Int32.toNatClampNeg (((40 * l1) + l2) + l5)))) fun (σ26 : MS) => nm (l4 + 1) fun (x27 : Int32) => FM_sendAll_176 (FM_sendAll_128 n) σ26 l1 l2 l3 x27 l5))))
def FM_sendAll_81  : Nat → MS → Int32 → Int32 → Int32 → Int32 → Option (Int32 × MS)
  | 0, _, _, _, _, _ => none
  | n + 1, σ, l1, l2, l3, l4 => if l3 ≤ l4 then (nm (setF σ 1 0) fun (σ15 : MS) => FM_sendAll_128 fuelN σ15 l1 l2 l3 0 0) else (gd (¬ (((((40 * l1) + l2) + l4) : Int32) < 0 ∨ 320 ≤ Int32.toNatClampNeg (((40 * l1) + l2) + l4))) (Option.bind (FM_isCoin σ (σ.2 4 (Int32.toNatClampNeg (((40 * l1) + l2) + l4)))) fun (r17 : Int32) => if r17 = 0 then (some ((-1000001), σ)) else (nm (l4 + 1) fun (x19 : Int32) => (FM_sendAll_81 n) σ l1 l2 l3 x19)))
def FM_sendAll (σ : MS) (a1 : Int32) (a2 : Int32) (a3 : Int32) : Option (Int32 × MS) :=
  nm (setF σ 0 0) fun (σ1 : MS) => if (σ1.1 7) = 0 then (some ((-1000002), σ1)) else (Option.bind (FM_isRow a1) fun (r3 : Int32) => if r3 = 0 then (some ((-1000001), σ1)) else (Option.bind (FM_in (Int32.toInt64 a3) 1 12) fun (r5 : Int32) => if r5 = 0 then (some ((-1000001), σ1)) else (gd (¬ ((a1 : Int32) < 0 ∨ 8 ≤ Int32.toNatClampNeg a1)) (if 0 ≤ (σ1.2 2 (Int32.toNatClampNeg a1)) then (if a2 < 0 then (FM_sendAll_72 σ1) else (gd (¬ ((a1 : Int32) < 0 ∨ 8 ≤ Int32.toNatClampNeg a1)) (if (lg_cmp ((Int32.toInt64 a2) + (Int32.toInt64 a3)) (Int32.toInt64 (σ1.2 3 (Int32.toNatClampNeg a1)))) ≤ 0 then (FM_sendAll_81 fuelN σ1 a1 a2 a3 0) else (FM_sendAll_72 σ1)))) else (bd2 (FM_finding σ1 1) fun (r12 : Int32) (σ13 : MS) => some (r12, σ13))))))
set_option maxHeartbeats 4000000 in
set_option maxRecDepth 100000 in
theorem kM_sendAll (l : Launch) (D : va_G) (h : Nat → Nat) (cI cZ : ClassId) (σ : MS) (a1 : Int32) (a2 : Int32) (a3 : Int32) (r : Int32) (σ' : MS) (hf : FM_sendAll σ a1 a2 a3 = some (r, σ')) : KK l D [(cI, .int), (cZ, .boolean)] yX9_sendAll wsX9_sendAll 3 64 [.ref (h 0), .int a1, .int a2, .int a3] (mw h cI cZ σ) (some (.int r)) (mw h cI cZ σ') := by
  refine KK.ofI (own := RX9) (cc := cX9_sendAll) (maxL := 6) (by decide) rfl rfl (Nat.le_of_ble_eq_true rfl) ?_
  intro p e s m args below meth c R Q A ls S hRf hRl hK hA hP hD hS hl hret
  obtain ⟨hx, hb, hml, hown, hts⟩ := id S
  have hin : ∀ w ∈ wsX90, w ∈ wsX9_sendAll := fun w hw => List.mem_cons_of_mem _ (List.mem_append_right _ hw)
  have f47 := hts (.fieldLink RX9 47 "PenniesAwayModel" "thrown" "I") (by decide +kernel)
  have f179 := hts (.fieldLink RX9 179 "PenniesAwayModel" "isThere" "Z") (by decide +kernel)
  have c67 := hts (.constant RX9 67 (-1000001)) (by decide +kernel)
  have c224 := hts (.constantLong RX9 224 (12)) (by decide +kernel)
  have f7 := hts (.fieldLink RX9 7 "PenniesAwayModel" "lane" "[I") (by decide +kernel)
  have f13 := hts (.fieldLink RX9 13 "PenniesAwayModel" "many" "[I") (by decide +kernel)
  have c210 := hts (.constant RX9 210 (-1000002)) (by decide +kernel)
  have f51 := hts (.fieldLink RX9 51 "PenniesAwayModel" "status" "I") (by decide +kernel)
  have f16 := hts (.fieldLink RX9 16 "PenniesAwayModel" "item" "[I") (by decide +kernel)
  have hl : lv_has ls 6 [(0, .ref (h 0)), (1, .int a1), (2, .int a2), (3, .int a3)] := hl
  have hre : ∀ (x : Int32) (σx : MS) (pc : Nat) (ls : Array Slot) (H : Heap) (locs : List Loc), (some (x, σx) : Option (Int32 × MS)) = some (r, σ') → va_P D vwCl (mw h cI cZ σx) H → va_D A (mw h cI cZ σx) → va_S A s.heap H locs → decode cX9_sendAll pc = .ok (.ireturn, 1) → W p l e R s m args below meth c H locs 0 0 Q (F0 m pc ls [.int x]) := by intro x σx pc ls H locs he; cases he; exact hret pc ls H locs
  have b72 : ∀ (σ : MS) (ls : Array Slot) (H : Heap) (locs : List Loc), FM_sendAll_72 σ = some (r, σ') → lv_has ls 6 [(0, .ref (h 0))] → va_P D vwCl (mw h cI cZ σ) H → va_D A (mw h cI cZ σ) → va_S A s.heap H locs → W p l e R s m args below meth c H locs 0 0 Q (F0 m 72 ls []) := by
    intro σ ls H locs hf hl hP hD hS
    unfold FM_sendAll_72 at hf
    refine lv_aload_n hx hb dX9_sendAll_72 rfl (lv_at hl 0 rfl) ?_
    refine lv_iconst (v := 2) hx hb dX9_sendAll_73 (by decide) ?_
    obtain ⟨r29, σ30, hr29, hf⟩ := bd2_some hf
    refine kc_v (ci := 8) (q0 := 0) (n := 1) S hRf hRl hK hA hP hD hS hl [.int 2] [] (kM_finding l D h cI cZ σ 2 r29 σ30 hr29) gX9_sendAll_X9_finding rfl (by decide +kernel) rfl ⟨by decide, by decide⟩ rfl rfl rfl rfl (Nat.le_of_ble_eq_true rfl) dX9_sendAll_74 (fun H locs hP hD hS => ?_)
    refine W.eq (g2 := F0 m 77 ls [.int r29]) rfl ?_
    exact hre _ _ _ _ _ _ hf hP hD hS dX9_sendAll_77
  have b176 : ∀ (ag128 : MS → Int32 → Int32 → Int32 → Int32 → Int32 → Option (Int32 × MS)) (hag128 : ∀ (σ : MS) (l1 : Int32) (l2 : Int32) (l3 : Int32) (l4 : Int32) (l5 : Int32) (ls : Array Slot) (H : Heap) (locs : List Loc), ag128 σ l1 l2 l3 l4 l5 = some (r, σ') → lv_has ls 6 [(0, .ref (h 0)), (1, .int l1), (2, .int l2), (3, .int l3), (4, .int l4), (5, .int l5)] → va_P D vwCl (mw h cI cZ σ) H → va_D A (mw h cI cZ σ) → va_S A s.heap H locs → W p l e R s m args below meth c H locs 0 0 Q (F0 m 128 ls [])), ∀ (σ : MS) (l1 : Int32) (l2 : Int32) (l3 : Int32) (l4 : Int32) (l5 : Int32) (ls : Array Slot) (H : Heap) (locs : List Loc), FM_sendAll_176 ag128 σ l1 l2 l3 l4 l5 = some (r, σ') → lv_has ls 6 [(0, .ref (h 0)), (1, .int l1), (2, .int l2), (3, .int l3), (4, .int l4), (5, .int l5)] → va_P D vwCl (mw h cI cZ σ) H → va_D A (mw h cI cZ σ) → va_S A s.heap H locs → W p l e R s m args below meth c H locs 0 0 Q (F0 m 176 ls []) := by
    intro ag128 hag128 σ l1 l2 l3 l4 l5 ls H locs hf hl hP hD hS
    unfold FM_sendAll_176 at hf
    obtain ⟨x28, ex28, hf⟩ := nm_some hf
    refine lv_iinc (v := x28) (lv' := [(5, .int x28), (0, .ref (h 0)), (1, .int l1), (2, .int l2), (3, .int l3), (4, .int l4)]) hx hb dX9_sendAll_176 hl (k := 5) rfl (by rw [ex28]; rfl) (by decide) rfl (fun ls hl => ?_)
    refine lv_goto (tgt := 128) hx hb dX9_sendAll_179 (by decide) ?_
    exact hag128 _ _ _ _ _ _ _ _ _ hf (lv_sub hl [1, 2, 3, 4, 5, 0] rfl) hP hD hS
  have b128 : ∀ (n : Nat), ∀ (σ : MS) (l1 : Int32) (l2 : Int32) (l3 : Int32) (l4 : Int32) (l5 : Int32) (ls : Array Slot) (H : Heap) (locs : List Loc), FM_sendAll_128 n σ l1 l2 l3 l4 l5 = some (r, σ') → lv_has ls 6 [(0, .ref (h 0)), (1, .int l1), (2, .int l2), (3, .int l3), (4, .int l4), (5, .int l5)] → va_P D vwCl (mw h cI cZ σ) H → va_D A (mw h cI cZ σ) → va_S A s.heap H locs → W p l e R s m args below meth c H locs 0 0 Q (F0 m 128 ls []) := by
    intro n
    induction n with
    | zero => intro σ l1 l2 l3 l4 l5 ls H locs hf; exact absurd hf (by simp [FM_sendAll_128])
    | succ n ih =>
      intro σ l1 l2 l3 l4 l5 ls H locs hf hl hP hD hS
      rw [FM_sendAll_128] at hf
      refine lv_iload hx hb dX9_sendAll_128 (lv_at hl 5 rfl) ?_
      refine lv_iload_n hx hb dX9_sendAll_130 rfl (lv_at hl 3 rfl) ?_
      refine lv_icmp_ge (tgt := 182) hx hb dX9_sendAll_131 (by decide) (fun c20 => ?_) (fun c20 => ?_)
      · have hf := (if_pos c20).symm.trans hf
        refine lv_iload hx hb dX9_sendAll_182 (lv_at hl 4 rfl) ?_
        exact hre _ _ _ _ _ _ hf hP hD hS dX9_sendAll_184
      · have hf := (if_neg c20).symm.trans hf
        refine lv_aload_n hx hb dX9_sendAll_134 rfl (lv_at hl 0 rfl) ?_
        refine lv_aload_n hx hb dX9_sendAll_135 rfl (lv_at hl 0 rfl) ?_
        refine Mg_4 S hin hK hP f16 dX9_sendAll_136 ?_
        refine lv_bipush (v := 40) hx hb dX9_sendAll_139 (by decide) ?_
        refine lv_iload_n hx hb dX9_sendAll_141 rfl (lv_at hl 1 rfl) ?_
        refine lv_imul hx hb dX9_sendAll_142 ?_
        refine lv_iload_n hx hb dX9_sendAll_143 rfl (lv_at hl 2 rfl) ?_
        refine lv_iadd hx hb dX9_sendAll_144 ?_
        refine lv_iload hx hb dX9_sendAll_145 (lv_at hl 5 rfl) ?_
        refine lv_iadd hx hb dX9_sendAll_147 ?_
        obtain ⟨g21, hf⟩ := gd_some hf
        refine Ml_4 S hK hP g21 dX9_sendAll_148 ?_
        obtain ⟨r22, hr22, hf⟩ := bi_some hf
        refine kc_v (ci := 8) (q0 := 0) (n := 1) S hRf hRl hK hA hP hD hS hl [.int (σ.2 4 (Int32.toNatClampNeg (((40 * l1) + l2) + l5)))] [] (kM_maySend l D h cI cZ σ (σ.2 4 (Int32.toNatClampNeg (((40 * l1) + l2) + l5))) r22 hr22) gX9_sendAll_X9_maySend rfl (by decide +kernel) rfl ⟨by decide, by decide⟩ rfl rfl rfl rfl (Nat.le_of_ble_eq_true rfl) dX9_sendAll_149 (fun H locs hP hD hS => ?_)
        refine W.eq (g2 := F0 m 152 ls [.int r22]) rfl ?_
        refine lv_if_eq (tgt := 176) hx hb dX9_sendAll_152 (by decide) (fun c23 => ?_) (fun c23 => ?_)
        · have hf := (if_pos c23).symm.trans hf
          exact b176 (FM_sendAll_128 n) ih _ _ _ _ _ _ _ _ _ hf (lv_sub hl [0, 1, 2, 3, 4, 5] rfl) hP hD hS
        · have hf := (if_neg c23).symm.trans hf
          refine lv_aload_n hx hb dX9_sendAll_155 rfl (lv_at hl 0 rfl) ?_
          refine lv_aload_n hx hb dX9_sendAll_156 rfl (lv_at hl 0 rfl) ?_
          refine Mg_4 S hin hK hP f16 dX9_sendAll_157 ?_
          refine lv_bipush (v := 40) hx hb dX9_sendAll_160 (by decide) ?_
          refine lv_iload_n hx hb dX9_sendAll_162 rfl (lv_at hl 1 rfl) ?_
          refine lv_imul hx hb dX9_sendAll_163 ?_
          refine lv_iload_n hx hb dX9_sendAll_164 rfl (lv_at hl 2 rfl) ?_
          refine lv_iadd hx hb dX9_sendAll_165 ?_
          refine lv_iload hx hb dX9_sendAll_166 (lv_at hl 5 rfl) ?_
          refine lv_iadd hx hb dX9_sendAll_168 ?_
          obtain ⟨g24, hf⟩ := gd_some hf
          refine Ml_4 S hK hP g24 dX9_sendAll_169 ?_
          obtain ⟨σ26, hr25, hf⟩ := bi_some hf
          refine kc_v (ci := 8) (q0 := 0) (n := 1) S hRf hRl hK hA hP hD hS hl [.int (σ.2 4 (Int32.toNatClampNeg (((40 * l1) + l2) + l5)))] [] (kM_sends l D h cI cZ σ (σ.2 4 (Int32.toNatClampNeg (((40 * l1) + l2) + l5))) σ26 hr25) gX9_sendAll_X9_sends rfl (by decide +kernel) rfl ⟨by decide, by decide⟩ rfl rfl rfl rfl (Nat.le_of_ble_eq_true rfl) dX9_sendAll_170 (fun H locs hP hD hS => ?_)
          refine W.eq (g2 := F0 m 173 ls []) rfl ?_
          obtain ⟨x27, ex27, hf⟩ := nm_some hf
          refine lv_iinc (v := x27) (lv' := [(4, .int x27), (0, .ref (h 0)), (1, .int l1), (2, .int l2), (3, .int l3), (5, .int l5)]) hx hb dX9_sendAll_173 hl (k := 4) rfl (by rw [ex27]; rfl) (by decide) rfl (fun ls hl => ?_)
          exact b176 (FM_sendAll_128 n) ih _ _ _ _ _ _ _ _ _ hf (lv_sub hl [1, 2, 3, 4, 0, 5] rfl) hP hD hS
  have b81 : ∀ (n : Nat), ∀ (σ : MS) (l1 : Int32) (l2 : Int32) (l3 : Int32) (l4 : Int32) (ls : Array Slot) (H : Heap) (locs : List Loc), FM_sendAll_81 n σ l1 l2 l3 l4 = some (r, σ') → lv_has ls 6 [(0, .ref (h 0)), (1, .int l1), (2, .int l2), (3, .int l3), (4, .int l4)] → va_P D vwCl (mw h cI cZ σ) H → va_D A (mw h cI cZ σ) → va_S A s.heap H locs → W p l e R s m args below meth c H locs 0 0 Q (F0 m 81 ls []) := by
    intro n
    induction n with
    | zero => intro σ l1 l2 l3 l4 ls H locs hf; exact absurd hf (by simp [FM_sendAll_81])
    | succ n ih =>
      intro σ l1 l2 l3 l4 ls H locs hf hl hP hD hS
      rw [FM_sendAll_81] at hf
      refine lv_iload hx hb dX9_sendAll_81 (lv_at hl 4 rfl) ?_
      refine lv_iload_n hx hb dX9_sendAll_83 rfl (lv_at hl 3 rfl) ?_
      refine lv_icmp_ge (tgt := 117) hx hb dX9_sendAll_84 (by decide) (fun c14 => ?_) (fun c14 => ?_)
      · have hf := (if_pos c14).symm.trans hf
        refine lv_aload_n hx hb dX9_sendAll_117 rfl (lv_at hl 0 rfl) ?_
        refine lv_iconst (v := 0) hx hb dX9_sendAll_118 (by decide) ?_
        refine Mp_1 S hin hK hP hD hS f51 dX9_sendAll_119 (fun H locs hP hD hS => ?_)
        obtain ⟨σ15, eσ15, hf⟩ := nm_some hf
        rw [← eσ15] at hP hD
        refine lv_iconst (v := 0) hx hb dX9_sendAll_122 (by decide) ?_
        refine lv_istore (lv' := [(4, .int 0), (0, .ref (h 0)), (1, .int l1), (2, .int l2), (3, .int l3)]) hx hb dX9_sendAll_123 hl (by decide) rfl (fun ls hl => ?_)
        refine lv_iconst (v := 0) hx hb dX9_sendAll_125 (by decide) ?_
        refine lv_istore (lv' := [(5, .int 0), (4, .int 0), (0, .ref (h 0)), (1, .int l1), (2, .int l2), (3, .int l3)]) hx hb dX9_sendAll_126 hl (by decide) rfl (fun ls hl => ?_)
        exact b128 fuelN _ _ _ _ _ _ _ _ _ hf (lv_sub hl [2, 3, 4, 5, 1, 0] rfl) hP hD hS
      · have hf := (if_neg c14).symm.trans hf
        refine lv_aload_n hx hb dX9_sendAll_87 rfl (lv_at hl 0 rfl) ?_
        refine lv_aload_n hx hb dX9_sendAll_88 rfl (lv_at hl 0 rfl) ?_
        refine Mg_4 S hin hK hP f16 dX9_sendAll_89 ?_
        refine lv_bipush (v := 40) hx hb dX9_sendAll_92 (by decide) ?_
        refine lv_iload_n hx hb dX9_sendAll_94 rfl (lv_at hl 1 rfl) ?_
        refine lv_imul hx hb dX9_sendAll_95 ?_
        refine lv_iload_n hx hb dX9_sendAll_96 rfl (lv_at hl 2 rfl) ?_
        refine lv_iadd hx hb dX9_sendAll_97 ?_
        refine lv_iload hx hb dX9_sendAll_98 (lv_at hl 4 rfl) ?_
        refine lv_iadd hx hb dX9_sendAll_100 ?_
        obtain ⟨g16, hf⟩ := gd_some hf
        refine Ml_4 S hK hP g16 dX9_sendAll_101 ?_
        obtain ⟨r17, hr17, hf⟩ := bi_some hf
        refine kc_v (ci := 8) (q0 := 0) (n := 1) S hRf hRl hK hA hP hD hS hl [.int (σ.2 4 (Int32.toNatClampNeg (((40 * l1) + l2) + l4)))] [] (kM_isCoin l D h cI cZ σ (σ.2 4 (Int32.toNatClampNeg (((40 * l1) + l2) + l4))) r17 hr17) gX9_sendAll_X9_isCoin rfl (by decide +kernel) rfl ⟨by decide, by decide⟩ rfl rfl rfl rfl (Nat.le_of_ble_eq_true rfl) dX9_sendAll_102 (fun H locs hP hD hS => ?_)
        refine W.eq (g2 := F0 m 105 ls [.int r17]) rfl ?_
        refine lv_if_ne (tgt := 111) hx hb dX9_sendAll_105 (by decide) (fun c18 => ?_) (fun c18 => ?_)
        · have hf := (if_neg c18).symm.trans hf
          obtain ⟨x19, ex19, hf⟩ := nm_some hf
          refine lv_iinc (v := x19) (lv' := [(4, .int x19), (0, .ref (h 0)), (1, .int l1), (2, .int l2), (3, .int l3)]) hx hb dX9_sendAll_111 hl (k := 4) rfl (by rw [ex19]; rfl) (by decide) rfl (fun ls hl => ?_)
          refine lv_goto (tgt := 81) hx hb dX9_sendAll_114 (by decide) ?_
          exact ih _ _ _ _ _ _ _ _ hf (lv_sub hl [1, 2, 3, 4, 0] rfl) hP hD hS
        · have hf := (if_pos c18).symm.trans hf
          refine lv_ldc (v := (-1000001)) hx hb hown c67 dX9_sendAll_108 ?_
          exact hre _ _ _ _ _ _ hf hP hD hS dX9_sendAll_110
  unfold FM_sendAll at hf
  refine lv_aload_n hx hb dX9_sendAll_0 rfl (lv_at hl 0 rfl) ?_
  refine lv_iconst (v := 0) hx hb dX9_sendAll_1 (by decide) ?_
  refine Mp_0 S hin hK hP hD hS f47 dX9_sendAll_2 (fun H locs hP hD hS => ?_)
  obtain ⟨σ1, eσ1, hf⟩ := nm_some hf
  rw [← eσ1] at hP hD
  refine lv_aload_n hx hb dX9_sendAll_5 rfl (lv_at hl 0 rfl) ?_
  refine Mg_7 S hin hK hP f179 dX9_sendAll_6 ?_
  refine lv_if_ne (tgt := 15) hx hb dX9_sendAll_9 (by decide) (fun c2 => ?_) (fun c2 => ?_)
  · have hf := (if_neg c2).symm.trans hf
    refine lv_iload_n hx hb dX9_sendAll_15 rfl (lv_at hl 1 rfl) ?_
    obtain ⟨r3, hr3, hf⟩ := bi_some hf
    refine kc_s (n := 1) S hRf hRl hK hA hP hD hS hl [.int a1] [] (kM_isRow l D _ _ a1 r3 hr3) gX9_sendAll_X9_isRow rfl (by decide +kernel) rfl ⟨by decide, by decide⟩ rfl (Nat.le_of_ble_eq_true rfl) dX9_sendAll_16 (fun H locs hP hD hS => ?_)
    refine W.eq (g2 := F0 m 19 ls [.int r3]) rfl ?_
    refine lv_if_eq (tgt := 34) hx hb dX9_sendAll_19 (by decide) (fun c4 => ?_) (fun c4 => ?_)
    · have hf := (if_pos c4).symm.trans hf
      refine lv_ldc (v := (-1000001)) hx hb hown c67 dX9_sendAll_34 ?_
      exact hre _ _ _ _ _ _ hf hP hD hS dX9_sendAll_36
    · have hf := (if_neg c4).symm.trans hf
      refine lv_iload_n hx hb dX9_sendAll_22 rfl (lv_at hl 3 rfl) ?_
      refine lv_i2l hx hb dX9_sendAll_23 rfl ?_
      refine lv_lconst (v := 1) hx hb dX9_sendAll_24 (by decide) ?_
      refine lv_ldc2 (v := 12) hx hb hown c224 dX9_sendAll_25 ?_
      obtain ⟨r5, hr5, hf⟩ := bi_some hf
      refine kc_s (n := 3) S hRf hRl hK hA hP hD hS hl [.long (Int32.toInt64 a3), .long 1, .long 12] [] (kM_in l D _ _ (Int32.toInt64 a3) 1 12 r5 hr5) gX9_sendAll_X9_in rfl (by decide +kernel) rfl ⟨by decide, by decide⟩ rfl (Nat.le_of_ble_eq_true rfl) dX9_sendAll_28 (fun H locs hP hD hS => ?_)
      refine W.eq (g2 := F0 m 31 ls [.int r5]) rfl ?_
      refine lv_if_ne (tgt := 37) hx hb dX9_sendAll_31 (by decide) (fun c6 => ?_) (fun c6 => ?_)
      · have hf := (if_neg c6).symm.trans hf
        refine lv_aload_n hx hb dX9_sendAll_37 rfl (lv_at hl 0 rfl) ?_
        refine Mg_2 S hin hK hP f7 dX9_sendAll_38 ?_
        refine lv_iload_n hx hb dX9_sendAll_41 rfl (lv_at hl 1 rfl) ?_
        obtain ⟨g7, hf⟩ := gd_some hf
        refine Ml_2 S hK hP g7 dX9_sendAll_42 ?_
        refine lv_if_ge (tgt := 52) hx hb dX9_sendAll_43 (by decide) (fun c8 => ?_) (fun c8 => ?_)
        · have hf := (if_pos c8).symm.trans hf
          refine lv_iload_n hx hb dX9_sendAll_52 rfl (lv_at hl 2 rfl) ?_
          refine lv_if_lt (tgt := 72) hx hb dX9_sendAll_53 (by decide) (fun c9 => ?_) (fun c9 => ?_)
          · have hf := (if_pos c9).symm.trans hf
            exact b72 _ _ _ _ hf (lv_sub hl [0] rfl) hP hD hS
          · have hf := (if_neg c9).symm.trans hf
            refine lv_iload_n hx hb dX9_sendAll_56 rfl (lv_at hl 2 rfl) ?_
            refine lv_i2l hx hb dX9_sendAll_57 rfl ?_
            refine lv_iload_n hx hb dX9_sendAll_58 rfl (lv_at hl 3 rfl) ?_
            refine lv_i2l hx hb dX9_sendAll_59 rfl ?_
            refine lv_ladd hx hb dX9_sendAll_60 ?_
            refine lv_aload_n hx hb dX9_sendAll_61 rfl (lv_at hl 0 rfl) ?_
            refine Mg_3 S hin hK hP f13 dX9_sendAll_62 ?_
            refine lv_iload_n hx hb dX9_sendAll_65 rfl (lv_at hl 1 rfl) ?_
            obtain ⟨g10, hf⟩ := gd_some hf
            refine Ml_3 S hK hP g10 dX9_sendAll_66 ?_
            refine lv_i2l hx hb dX9_sendAll_67 rfl ?_
            refine W.lcmp hx hb dX9_sendAll_68 ?_
            refine lv_if_le (tgt := 78) hx hb dX9_sendAll_69 (by decide) (fun c11 => ?_) (fun c11 => ?_)
            · have hf := (if_pos c11).symm.trans hf
              refine lv_iconst (v := 0) hx hb dX9_sendAll_78 (by decide) ?_
              refine lv_istore (lv' := [(4, .int 0), (0, .ref (h 0)), (1, .int a1), (2, .int a2), (3, .int a3)]) hx hb dX9_sendAll_79 hl (by decide) rfl (fun ls hl => ?_)
              exact b81 fuelN _ _ _ _ _ _ _ _ hf (lv_sub hl [1, 2, 3, 4, 0] rfl) hP hD hS
            · have hf := (if_neg c11).symm.trans hf
              exact b72 _ _ _ _ hf (lv_sub hl [0] rfl) hP hD hS
        · have hf := (if_neg c8).symm.trans hf
          refine lv_aload_n hx hb dX9_sendAll_46 rfl (lv_at hl 0 rfl) ?_
          refine lv_iconst (v := 1) hx hb dX9_sendAll_47 (by decide) ?_
          obtain ⟨r12, σ13, hr12, hf⟩ := bd2_some hf
          refine kc_v (ci := 8) (q0 := 0) (n := 1) S hRf hRl hK hA hP hD hS hl [.int 1] [] (kM_finding l D h cI cZ σ1 1 r12 σ13 hr12) gX9_sendAll_X9_finding rfl (by decide +kernel) rfl ⟨by decide, by decide⟩ rfl rfl rfl rfl (Nat.le_of_ble_eq_true rfl) dX9_sendAll_48 (fun H locs hP hD hS => ?_)
          refine W.eq (g2 := F0 m 51 ls [.int r12]) rfl ?_
          exact hre _ _ _ _ _ _ hf hP hD hS dX9_sendAll_51
      · have hf := (if_pos c6).symm.trans hf
        refine lv_ldc (v := (-1000001)) hx hb hown c67 dX9_sendAll_34 ?_
        exact hre _ _ _ _ _ _ hf hP hD hS dX9_sendAll_36
  · have hf := (if_pos c2).symm.trans hf
    refine lv_ldc (v := (-1000002)) hx hb hown c210 dX9_sendAll_12 ?_
    exact hre _ _ _ _ _ _ hf hP hD hS dX9_sendAll_14
def FM_arrives_40 (σ : MS) (l1 : Int32) : Option MS :=
  Option.bind (FM_becomes σ l1 3 3) fun (σ18 : MS) => some σ18
def FM_arrives (σ : MS) (a1 : Int32) : Option MS :=
  Option.bind (FM_of σ a1 3) fun (r1 : Int32) => if r1 = 2 then (Option.bind (FM_becomes σ a1 3 0) fun (σ16 : MS) => some σ16) else (Option.bind (FM_of σ a1 5) fun (r3 : Int32) => if r3 = 1 then (FM_arrives_40 σ a1) else (Option.bind (FM_of σ a1 0) fun (r5 : Int32) => if r5 = 5 then (FM_arrives_40 σ a1) else (Option.bind (FM_becomes σ a1 2 0) fun (σ8 : MS) => Option.bind (FM_becomes σ8 a1 3 2) fun (σ10 : MS) => Option.bind (FM_townOf σ10 a1) fun (r11 : Int32) => Option.bind (FM_farOf σ10 r11 0) fun (r12 : Int32) => Option.bind (FM_becomes σ10 a1 4 r12) fun (σ14 : MS) => some σ14)))
set_option maxHeartbeats 4000000 in
set_option maxRecDepth 100000 in
theorem kM_arrives (l : Launch) (D : va_G) (h : Nat → Nat) (cI cZ : ClassId) (σ : MS) (a1 : Int32)  (σ' : MS) (hf : FM_arrives σ a1 = some σ') : KK l D [(cI, .int), (cZ, .boolean)] yX9_arrives wsX9_arrives 2 43 [.ref (h 0), .int a1] (mw h cI cZ σ) none (mw h cI cZ σ') := by
  refine KK.ofV (own := RX9) (cc := cX9_arrives) (maxL := 2) (by decide) rfl rfl (Nat.le_of_ble_eq_true rfl) ?_
  intro p e s m args below meth c R Q A ls S hRf hRl hK hA hP hD hS hl hret
  obtain ⟨hx, hb, hml, hown, hts⟩ := id S
  have hin : ∀ w ∈ wsX90, w ∈ wsX9_arrives := fun w hw => List.mem_cons_of_mem _ (List.mem_append_right _ hw)
  have hl : lv_has ls 2 [(0, .ref (h 0)), (1, .int a1)] := hl
  have hre : ∀ (σx : MS) (pc : Nat) (ls : Array Slot) (H : Heap) (locs : List Loc), (some σx : Option MS) = some σ' → va_P D vwCl (mw h cI cZ σx) H → va_D A (mw h cI cZ σx) → va_S A s.heap H locs → decode cX9_arrives pc = .ok (.return_, 1) → W p l e R s m args below meth c H locs 0 0 Q (F0 m pc ls []) := by intro σx pc ls H locs he; cases he; exact hret pc ls H locs
  have b40 : ∀ (σ : MS) (l1 : Int32) (ls : Array Slot) (H : Heap) (locs : List Loc), FM_arrives_40 σ l1 = some σ' → lv_has ls 2 [(0, .ref (h 0)), (1, .int l1)] → va_P D vwCl (mw h cI cZ σ) H → va_D A (mw h cI cZ σ) → va_S A s.heap H locs → W p l e R s m args below meth c H locs 0 0 Q (F0 m 40 ls []) := by
    intro σ l1 ls H locs hf hl hP hD hS
    unfold FM_arrives_40 at hf
    refine lv_aload_n hx hb dX9_arrives_40 rfl (lv_at hl 0 rfl) ?_
    refine lv_iload_n hx hb dX9_arrives_41 rfl (lv_at hl 1 rfl) ?_
    refine lv_iconst (v := 3) hx hb dX9_arrives_42 (by decide) ?_
    refine lv_iconst (v := 3) hx hb dX9_arrives_43 (by decide) ?_
    obtain ⟨σ18, hr17, hf⟩ := bi_some hf
    refine kc_v (ci := 8) (q0 := 0) (n := 3) S hRf hRl hK hA hP hD hS hl [.int l1, .int 3, .int 3] [] (kM_becomes l D h cI cZ σ l1 3 3 σ18 hr17) gX9_arrives_X9_becomes rfl (by decide +kernel) rfl ⟨by decide, by decide⟩ rfl rfl rfl rfl (Nat.le_of_ble_eq_true rfl) dX9_arrives_44 (fun H locs hP hD hS => ?_)
    refine W.eq (g2 := F0 m 47 ls []) rfl ?_
    refine lv_goto (tgt := 80) hx hb dX9_arrives_47 (by decide) ?_
    exact hre _ _ _ _ _ hf hP hD hS dX9_arrives_80
  unfold FM_arrives at hf
  refine lv_aload_n hx hb dX9_arrives_0 rfl (lv_at hl 0 rfl) ?_
  refine lv_iload_n hx hb dX9_arrives_1 rfl (lv_at hl 1 rfl) ?_
  refine lv_iconst (v := 3) hx hb dX9_arrives_2 (by decide) ?_
  obtain ⟨r1, hr1, hf⟩ := bi_some hf
  refine kc_v (ci := 8) (q0 := 0) (n := 2) S hRf hRl hK hA hP hD hS hl [.int a1, .int 3] [] (kM_of l D h cI cZ σ a1 3 r1 hr1) gX9_arrives_X9_of rfl (by decide +kernel) rfl ⟨by decide, by decide⟩ rfl rfl rfl rfl (Nat.le_of_ble_eq_true rfl) dX9_arrives_3 (fun H locs hP hD hS => ?_)
  refine W.eq (g2 := F0 m 6 ls [.int r1]) rfl ?_
  refine lv_iconst (v := 2) hx hb dX9_arrives_6 (by decide) ?_
  refine lv_icmp_ne (tgt := 20) hx hb dX9_arrives_7 (by decide) (fun c2 => ?_) (fun c2 => ?_)
  · have hf := (if_neg c2).symm.trans hf
    refine lv_aload_n hx hb dX9_arrives_20 rfl (lv_at hl 0 rfl) ?_
    refine lv_iload_n hx hb dX9_arrives_21 rfl (lv_at hl 1 rfl) ?_
    refine lv_iconst (v := 5) hx hb dX9_arrives_22 (by decide) ?_
    obtain ⟨r3, hr3, hf⟩ := bi_some hf
    refine kc_v (ci := 8) (q0 := 0) (n := 2) S hRf hRl hK hA hP hD hS hl [.int a1, .int 5] [] (kM_of l D h cI cZ σ a1 5 r3 hr3) gX9_arrives_X9_of rfl (by decide +kernel) rfl ⟨by decide, by decide⟩ rfl rfl rfl rfl (Nat.le_of_ble_eq_true rfl) dX9_arrives_23 (fun H locs hP hD hS => ?_)
    refine W.eq (g2 := F0 m 26 ls [.int r3]) rfl ?_
    refine lv_iconst (v := 1) hx hb dX9_arrives_26 (by decide) ?_
    refine lv_icmp_eq (tgt := 40) hx hb dX9_arrives_27 (by decide) (fun c4 => ?_) (fun c4 => ?_)
    · have hf := (if_pos c4).symm.trans hf
      exact b40 _ _ _ _ _ hf (lv_sub hl [0, 1] rfl) hP hD hS
    · have hf := (if_neg c4).symm.trans hf
      refine lv_aload_n hx hb dX9_arrives_30 rfl (lv_at hl 0 rfl) ?_
      refine lv_iload_n hx hb dX9_arrives_31 rfl (lv_at hl 1 rfl) ?_
      refine lv_iconst (v := 0) hx hb dX9_arrives_32 (by decide) ?_
      obtain ⟨r5, hr5, hf⟩ := bi_some hf
      refine kc_v (ci := 8) (q0 := 0) (n := 2) S hRf hRl hK hA hP hD hS hl [.int a1, .int 0] [] (kM_of l D h cI cZ σ a1 0 r5 hr5) gX9_arrives_X9_of rfl (by decide +kernel) rfl ⟨by decide, by decide⟩ rfl rfl rfl rfl (Nat.le_of_ble_eq_true rfl) dX9_arrives_33 (fun H locs hP hD hS => ?_)
      refine W.eq (g2 := F0 m 36 ls [.int r5]) rfl ?_
      refine lv_iconst (v := 5) hx hb dX9_arrives_36 (by decide) ?_
      refine lv_icmp_ne (tgt := 50) hx hb dX9_arrives_37 (by decide) (fun c6 => ?_) (fun c6 => ?_)
      · have hf := (if_neg c6).symm.trans hf
        refine lv_aload_n hx hb dX9_arrives_50 rfl (lv_at hl 0 rfl) ?_
        refine lv_iload_n hx hb dX9_arrives_51 rfl (lv_at hl 1 rfl) ?_
        refine lv_iconst (v := 2) hx hb dX9_arrives_52 (by decide) ?_
        refine lv_iconst (v := 0) hx hb dX9_arrives_53 (by decide) ?_
        obtain ⟨σ8, hr7, hf⟩ := bi_some hf
        refine kc_v (ci := 8) (q0 := 0) (n := 3) S hRf hRl hK hA hP hD hS hl [.int a1, .int 2, .int 0] [] (kM_becomes l D h cI cZ σ a1 2 0 σ8 hr7) gX9_arrives_X9_becomes rfl (by decide +kernel) rfl ⟨by decide, by decide⟩ rfl rfl rfl rfl (Nat.le_of_ble_eq_true rfl) dX9_arrives_54 (fun H locs hP hD hS => ?_)
        refine W.eq (g2 := F0 m 57 ls []) rfl ?_
        refine lv_aload_n hx hb dX9_arrives_57 rfl (lv_at hl 0 rfl) ?_
        refine lv_iload_n hx hb dX9_arrives_58 rfl (lv_at hl 1 rfl) ?_
        refine lv_iconst (v := 3) hx hb dX9_arrives_59 (by decide) ?_
        refine lv_iconst (v := 2) hx hb dX9_arrives_60 (by decide) ?_
        obtain ⟨σ10, hr9, hf⟩ := bi_some hf
        refine kc_v (ci := 8) (q0 := 0) (n := 3) S hRf hRl hK hA hP hD hS hl [.int a1, .int 3, .int 2] [] (kM_becomes l D h cI cZ σ8 a1 3 2 σ10 hr9) gX9_arrives_X9_becomes rfl (by decide +kernel) rfl ⟨by decide, by decide⟩ rfl rfl rfl rfl (Nat.le_of_ble_eq_true rfl) dX9_arrives_61 (fun H locs hP hD hS => ?_)
        refine W.eq (g2 := F0 m 64 ls []) rfl ?_
        refine lv_aload_n hx hb dX9_arrives_64 rfl (lv_at hl 0 rfl) ?_
        refine lv_iload_n hx hb dX9_arrives_65 rfl (lv_at hl 1 rfl) ?_
        refine lv_iconst (v := 4) hx hb dX9_arrives_66 (by decide) ?_
        refine lv_aload_n hx hb dX9_arrives_67 rfl (lv_at hl 0 rfl) ?_
        refine lv_aload_n hx hb dX9_arrives_68 rfl (lv_at hl 0 rfl) ?_
        refine lv_iload_n hx hb dX9_arrives_69 rfl (lv_at hl 1 rfl) ?_
        obtain ⟨r11, hr11, hf⟩ := bi_some hf
        refine kc_v (ci := 8) (q0 := 0) (n := 1) S hRf hRl hK hA hP hD hS hl [.int a1] [.ref (h 0), .int 4, .int a1, .ref (h 0)] (kM_townOf l D h cI cZ σ10 a1 r11 hr11) gX9_arrives_X9_townOf rfl (by decide +kernel) rfl ⟨by decide, by decide⟩ rfl rfl rfl rfl (Nat.le_of_ble_eq_true rfl) dX9_arrives_70 (fun H locs hP hD hS => ?_)
        refine W.eq (g2 := F0 m 73 ls [.int r11, .ref (h 0), .int 4, .int a1, .ref (h 0)]) rfl ?_
        refine lv_iconst (v := 0) hx hb dX9_arrives_73 (by decide) ?_
        obtain ⟨r12, hr12, hf⟩ := bi_some hf
        refine kc_v (ci := 8) (q0 := 0) (n := 2) S hRf hRl hK hA hP hD hS hl [.int r11, .int 0] [.int 4, .int a1, .ref (h 0)] (kM_farOf l D h cI cZ σ10 r11 0 r12 hr12) gX9_arrives_X9_farOf rfl (by decide +kernel) rfl ⟨by decide, by decide⟩ rfl rfl rfl rfl (Nat.le_of_ble_eq_true rfl) dX9_arrives_74 (fun H locs hP hD hS => ?_)
        refine W.eq (g2 := F0 m 77 ls [.int r12, .int 4, .int a1, .ref (h 0)]) rfl ?_
        obtain ⟨σ14, hr13, hf⟩ := bi_some hf
        refine kc_v (ci := 8) (q0 := 0) (n := 3) S hRf hRl hK hA hP hD hS hl [.int a1, .int 4, .int r12] [] (kM_becomes l D h cI cZ σ10 a1 4 r12 σ14 hr13) gX9_arrives_X9_becomes rfl (by decide +kernel) rfl ⟨by decide, by decide⟩ rfl rfl rfl rfl (Nat.le_of_ble_eq_true rfl) dX9_arrives_77 (fun H locs hP hD hS => ?_)
        refine W.eq (g2 := F0 m 80 ls []) rfl ?_
        exact hre _ _ _ _ _ hf hP hD hS dX9_arrives_80
      · have hf := (if_pos c6).symm.trans hf
        exact b40 _ _ _ _ _ hf (lv_sub hl [0, 1] rfl) hP hD hS
  · have hf := (if_pos c2).symm.trans hf
    refine lv_aload_n hx hb dX9_arrives_10 rfl (lv_at hl 0 rfl) ?_
    refine lv_iload_n hx hb dX9_arrives_11 rfl (lv_at hl 1 rfl) ?_
    refine lv_iconst (v := 3) hx hb dX9_arrives_12 (by decide) ?_
    refine lv_iconst (v := 0) hx hb dX9_arrives_13 (by decide) ?_
    obtain ⟨σ16, hr15, hf⟩ := bi_some hf
    refine kc_v (ci := 8) (q0 := 0) (n := 3) S hRf hRl hK hA hP hD hS hl [.int a1, .int 3, .int 0] [] (kM_becomes l D h cI cZ σ a1 3 0 σ16 hr15) gX9_arrives_X9_becomes rfl (by decide +kernel) rfl ⟨by decide, by decide⟩ rfl rfl rfl rfl (Nat.le_of_ble_eq_true rfl) dX9_arrives_14 (fun H locs hP hD hS => ?_)
    refine W.eq (g2 := F0 m 17 ls []) rfl ?_
    refine lv_goto (tgt := 80) hx hb dX9_arrives_17 (by decide) ?_
    exact hre _ _ _ _ _ hf hP hD hS dX9_arrives_80
def FM_goesOn_53 (σ : MS) (l1 : Int32) : Option MS :=
  Option.bind (FM_of σ l1 4) fun (r12 : Int32) => Option.bind (FM_becomes σ l1 4 (r12 - 1)) fun (σ14 : MS) => Option.bind (FM_of σ14 l1 4) fun (r15 : Int32) => if r15 = 0 then (Option.bind (FM_arrives σ14 l1) fun (σ18 : MS) => some σ18) else (some σ14)
def FM_goesOn_33 (σ : MS) (l1 : Int32) : Option MS :=
  Option.bind (FM_of σ l1 3) fun (r8 : Int32) => if r8 = 1 then (FM_goesOn_53 σ l1) else (Option.bind (FM_of σ l1 3) fun (r10 : Int32) => if r10 = 2 then (FM_goesOn_53 σ l1) else (some σ))
def FM_goesOn (σ : MS) (a1 : Int32) : Option MS :=
  Option.bind (FM_of σ a1 5) fun (r1 : Int32) => if r1 = 0 then (Option.bind (FM_of σ a1 3) fun (r3 : Int32) => if r3 = 3 then (FM_goesOn_33 σ a1) else (Option.bind (FM_of σ a1 2) fun (r5 : Int32) => Option.bind (FM_becomes σ a1 2 (r5 + 1)) fun (σ7 : MS) => FM_goesOn_33 σ7 a1)) else (FM_goesOn_33 σ a1)
set_option maxHeartbeats 4000000 in
set_option maxRecDepth 100000 in
theorem kM_goesOn (l : Launch) (D : va_G) (h : Nat → Nat) (cI cZ : ClassId) (σ : MS) (a1 : Int32)  (σ' : MS) (hf : FM_goesOn σ a1 = some σ') : KK l D [(cI, .int), (cZ, .boolean)] yX9_goesOn wsX9_goesOn 3 64 [.ref (h 0), .int a1] (mw h cI cZ σ) none (mw h cI cZ σ') := by
  refine KK.ofV (own := RX9) (cc := cX9_goesOn) (maxL := 2) (by decide) rfl rfl (Nat.le_of_ble_eq_true rfl) ?_
  intro p e s m args below meth c R Q A ls S hRf hRl hK hA hP hD hS hl hret
  obtain ⟨hx, hb, hml, hown, hts⟩ := id S
  have hin : ∀ w ∈ wsX90, w ∈ wsX9_goesOn := fun w hw => List.mem_cons_of_mem _ (List.mem_append_right _ hw)
  have hl : lv_has ls 2 [(0, .ref (h 0)), (1, .int a1)] := hl
  have hre : ∀ (σx : MS) (pc : Nat) (ls : Array Slot) (H : Heap) (locs : List Loc), (some σx : Option MS) = some σ' → va_P D vwCl (mw h cI cZ σx) H → va_D A (mw h cI cZ σx) → va_S A s.heap H locs → decode cX9_goesOn pc = .ok (.return_, 1) → W p l e R s m args below meth c H locs 0 0 Q (F0 m pc ls []) := by intro σx pc ls H locs he; cases he; exact hret pc ls H locs
  have b53 : ∀ (σ : MS) (l1 : Int32) (ls : Array Slot) (H : Heap) (locs : List Loc), FM_goesOn_53 σ l1 = some σ' → lv_has ls 2 [(0, .ref (h 0)), (1, .int l1)] → va_P D vwCl (mw h cI cZ σ) H → va_D A (mw h cI cZ σ) → va_S A s.heap H locs → W p l e R s m args below meth c H locs 0 0 Q (F0 m 53 ls []) := by
    intro σ l1 ls H locs hf hl hP hD hS
    unfold FM_goesOn_53 at hf
    refine lv_aload_n hx hb dX9_goesOn_53 rfl (lv_at hl 0 rfl) ?_
    refine lv_iload_n hx hb dX9_goesOn_54 rfl (lv_at hl 1 rfl) ?_
    refine lv_iconst (v := 4) hx hb dX9_goesOn_55 (by decide) ?_
    refine lv_aload_n hx hb dX9_goesOn_56 rfl (lv_at hl 0 rfl) ?_
    refine lv_iload_n hx hb dX9_goesOn_57 rfl (lv_at hl 1 rfl) ?_
    refine lv_iconst (v := 4) hx hb dX9_goesOn_58 (by decide) ?_
    obtain ⟨r12, hr12, hf⟩ := bi_some hf
    refine kc_v (ci := 8) (q0 := 0) (n := 2) S hRf hRl hK hA hP hD hS hl [.int l1, .int 4] [.int 4, .int l1, .ref (h 0)] (kM_of l D h cI cZ σ l1 4 r12 hr12) gX9_goesOn_X9_of rfl (by decide +kernel) rfl ⟨by decide, by decide⟩ rfl rfl rfl rfl (Nat.le_of_ble_eq_true rfl) dX9_goesOn_59 (fun H locs hP hD hS => ?_)
    refine W.eq (g2 := F0 m 62 ls [.int r12, .int 4, .int l1, .ref (h 0)]) rfl ?_
    refine lv_iconst (v := 1) hx hb dX9_goesOn_62 (by decide) ?_
    refine lv_isub hx hb dX9_goesOn_63 ?_
    obtain ⟨σ14, hr13, hf⟩ := bi_some hf
    refine kc_v (ci := 8) (q0 := 0) (n := 3) S hRf hRl hK hA hP hD hS hl [.int l1, .int 4, .int (r12 - 1)] [] (kM_becomes l D h cI cZ σ l1 4 (r12 - 1) σ14 hr13) gX9_goesOn_X9_becomes rfl (by decide +kernel) rfl ⟨by decide, by decide⟩ rfl rfl rfl rfl (Nat.le_of_ble_eq_true rfl) dX9_goesOn_64 (fun H locs hP hD hS => ?_)
    refine W.eq (g2 := F0 m 67 ls []) rfl ?_
    refine lv_aload_n hx hb dX9_goesOn_67 rfl (lv_at hl 0 rfl) ?_
    refine lv_iload_n hx hb dX9_goesOn_68 rfl (lv_at hl 1 rfl) ?_
    refine lv_iconst (v := 4) hx hb dX9_goesOn_69 (by decide) ?_
    obtain ⟨r15, hr15, hf⟩ := bi_some hf
    refine kc_v (ci := 8) (q0 := 0) (n := 2) S hRf hRl hK hA hP hD hS hl [.int l1, .int 4] [] (kM_of l D h cI cZ σ14 l1 4 r15 hr15) gX9_goesOn_X9_of rfl (by decide +kernel) rfl ⟨by decide, by decide⟩ rfl rfl rfl rfl (Nat.le_of_ble_eq_true rfl) dX9_goesOn_70 (fun H locs hP hD hS => ?_)
    refine W.eq (g2 := F0 m 73 ls [.int r15]) rfl ?_
    refine lv_if_ne (tgt := 81) hx hb dX9_goesOn_73 (by decide) (fun c16 => ?_) (fun c16 => ?_)
    · have hf := (if_neg c16).symm.trans hf
      exact hre _ _ _ _ _ hf hP hD hS dX9_goesOn_81
    · have hf := (if_pos c16).symm.trans hf
      refine lv_aload_n hx hb dX9_goesOn_76 rfl (lv_at hl 0 rfl) ?_
      refine lv_iload_n hx hb dX9_goesOn_77 rfl (lv_at hl 1 rfl) ?_
      obtain ⟨σ18, hr17, hf⟩ := bi_some hf
      refine kc_v (ci := 8) (q0 := 0) (n := 1) S hRf hRl hK hA hP hD hS hl [.int l1] [] (kM_arrives l D h cI cZ σ14 l1 σ18 hr17) gX9_goesOn_X9_arrives rfl (by decide +kernel) rfl ⟨by decide, by decide⟩ rfl rfl rfl rfl (Nat.le_of_ble_eq_true rfl) dX9_goesOn_78 (fun H locs hP hD hS => ?_)
      refine W.eq (g2 := F0 m 81 ls []) rfl ?_
      exact hre _ _ _ _ _ hf hP hD hS dX9_goesOn_81
  have b33 : ∀ (σ : MS) (l1 : Int32) (ls : Array Slot) (H : Heap) (locs : List Loc), FM_goesOn_33 σ l1 = some σ' → lv_has ls 2 [(0, .ref (h 0)), (1, .int l1)] → va_P D vwCl (mw h cI cZ σ) H → va_D A (mw h cI cZ σ) → va_S A s.heap H locs → W p l e R s m args below meth c H locs 0 0 Q (F0 m 33 ls []) := by
    intro σ l1 ls H locs hf hl hP hD hS
    unfold FM_goesOn_33 at hf
    refine lv_aload_n hx hb dX9_goesOn_33 rfl (lv_at hl 0 rfl) ?_
    refine lv_iload_n hx hb dX9_goesOn_34 rfl (lv_at hl 1 rfl) ?_
    refine lv_iconst (v := 3) hx hb dX9_goesOn_35 (by decide) ?_
    obtain ⟨r8, hr8, hf⟩ := bi_some hf
    refine kc_v (ci := 8) (q0 := 0) (n := 2) S hRf hRl hK hA hP hD hS hl [.int l1, .int 3] [] (kM_of l D h cI cZ σ l1 3 r8 hr8) gX9_goesOn_X9_of rfl (by decide +kernel) rfl ⟨by decide, by decide⟩ rfl rfl rfl rfl (Nat.le_of_ble_eq_true rfl) dX9_goesOn_36 (fun H locs hP hD hS => ?_)
    refine W.eq (g2 := F0 m 39 ls [.int r8]) rfl ?_
    refine lv_iconst (v := 1) hx hb dX9_goesOn_39 (by decide) ?_
    refine lv_icmp_eq (tgt := 53) hx hb dX9_goesOn_40 (by decide) (fun c9 => ?_) (fun c9 => ?_)
    · have hf := (if_pos c9).symm.trans hf
      exact b53 _ _ _ _ _ hf (lv_sub hl [0, 1] rfl) hP hD hS
    · have hf := (if_neg c9).symm.trans hf
      refine lv_aload_n hx hb dX9_goesOn_43 rfl (lv_at hl 0 rfl) ?_
      refine lv_iload_n hx hb dX9_goesOn_44 rfl (lv_at hl 1 rfl) ?_
      refine lv_iconst (v := 3) hx hb dX9_goesOn_45 (by decide) ?_
      obtain ⟨r10, hr10, hf⟩ := bi_some hf
      refine kc_v (ci := 8) (q0 := 0) (n := 2) S hRf hRl hK hA hP hD hS hl [.int l1, .int 3] [] (kM_of l D h cI cZ σ l1 3 r10 hr10) gX9_goesOn_X9_of rfl (by decide +kernel) rfl ⟨by decide, by decide⟩ rfl rfl rfl rfl (Nat.le_of_ble_eq_true rfl) dX9_goesOn_46 (fun H locs hP hD hS => ?_)
      refine W.eq (g2 := F0 m 49 ls [.int r10]) rfl ?_
      refine lv_iconst (v := 2) hx hb dX9_goesOn_49 (by decide) ?_
      refine lv_icmp_ne (tgt := 81) hx hb dX9_goesOn_50 (by decide) (fun c11 => ?_) (fun c11 => ?_)
      · have hf := (if_neg c11).symm.trans hf
        exact hre _ _ _ _ _ hf hP hD hS dX9_goesOn_81
      · have hf := (if_pos c11).symm.trans hf
        exact b53 _ _ _ _ _ hf (lv_sub hl [0, 1] rfl) hP hD hS
  unfold FM_goesOn at hf
  refine lv_aload_n hx hb dX9_goesOn_0 rfl (lv_at hl 0 rfl) ?_
  refine lv_iload_n hx hb dX9_goesOn_1 rfl (lv_at hl 1 rfl) ?_
  refine lv_iconst (v := 5) hx hb dX9_goesOn_2 (by decide) ?_
  obtain ⟨r1, hr1, hf⟩ := bi_some hf
  refine kc_v (ci := 8) (q0 := 0) (n := 2) S hRf hRl hK hA hP hD hS hl [.int a1, .int 5] [] (kM_of l D h cI cZ σ a1 5 r1 hr1) gX9_goesOn_X9_of rfl (by decide +kernel) rfl ⟨by decide, by decide⟩ rfl rfl rfl rfl (Nat.le_of_ble_eq_true rfl) dX9_goesOn_3 (fun H locs hP hD hS => ?_)
  refine W.eq (g2 := F0 m 6 ls [.int r1]) rfl ?_
  refine lv_if_ne (tgt := 33) hx hb dX9_goesOn_6 (by decide) (fun c2 => ?_) (fun c2 => ?_)
  · have hf := (if_neg c2).symm.trans hf
    exact b33 _ _ _ _ _ hf (lv_sub hl [0, 1] rfl) hP hD hS
  · have hf := (if_pos c2).symm.trans hf
    refine lv_aload_n hx hb dX9_goesOn_9 rfl (lv_at hl 0 rfl) ?_
    refine lv_iload_n hx hb dX9_goesOn_10 rfl (lv_at hl 1 rfl) ?_
    refine lv_iconst (v := 3) hx hb dX9_goesOn_11 (by decide) ?_
    obtain ⟨r3, hr3, hf⟩ := bi_some hf
    refine kc_v (ci := 8) (q0 := 0) (n := 2) S hRf hRl hK hA hP hD hS hl [.int a1, .int 3] [] (kM_of l D h cI cZ σ a1 3 r3 hr3) gX9_goesOn_X9_of rfl (by decide +kernel) rfl ⟨by decide, by decide⟩ rfl rfl rfl rfl (Nat.le_of_ble_eq_true rfl) dX9_goesOn_12 (fun H locs hP hD hS => ?_)
    refine W.eq (g2 := F0 m 15 ls [.int r3]) rfl ?_
    refine lv_iconst (v := 3) hx hb dX9_goesOn_15 (by decide) ?_
    refine lv_icmp_eq (tgt := 33) hx hb dX9_goesOn_16 (by decide) (fun c4 => ?_) (fun c4 => ?_)
    · have hf := (if_pos c4).symm.trans hf
      exact b33 _ _ _ _ _ hf (lv_sub hl [0, 1] rfl) hP hD hS
    · have hf := (if_neg c4).symm.trans hf
      refine lv_aload_n hx hb dX9_goesOn_19 rfl (lv_at hl 0 rfl) ?_
      refine lv_iload_n hx hb dX9_goesOn_20 rfl (lv_at hl 1 rfl) ?_
      refine lv_iconst (v := 2) hx hb dX9_goesOn_21 (by decide) ?_
      refine lv_aload_n hx hb dX9_goesOn_22 rfl (lv_at hl 0 rfl) ?_
      refine lv_iload_n hx hb dX9_goesOn_23 rfl (lv_at hl 1 rfl) ?_
      refine lv_iconst (v := 2) hx hb dX9_goesOn_24 (by decide) ?_
      obtain ⟨r5, hr5, hf⟩ := bi_some hf
      refine kc_v (ci := 8) (q0 := 0) (n := 2) S hRf hRl hK hA hP hD hS hl [.int a1, .int 2] [.int 2, .int a1, .ref (h 0)] (kM_of l D h cI cZ σ a1 2 r5 hr5) gX9_goesOn_X9_of rfl (by decide +kernel) rfl ⟨by decide, by decide⟩ rfl rfl rfl rfl (Nat.le_of_ble_eq_true rfl) dX9_goesOn_25 (fun H locs hP hD hS => ?_)
      refine W.eq (g2 := F0 m 28 ls [.int r5, .int 2, .int a1, .ref (h 0)]) rfl ?_
      refine lv_iconst (v := 1) hx hb dX9_goesOn_28 (by decide) ?_
      refine lv_iadd hx hb dX9_goesOn_29 ?_
      obtain ⟨σ7, hr6, hf⟩ := bi_some hf
      refine kc_v (ci := 8) (q0 := 0) (n := 3) S hRf hRl hK hA hP hD hS hl [.int a1, .int 2, .int (r5 + 1)] [] (kM_becomes l D h cI cZ σ a1 2 (r5 + 1) σ7 hr6) gX9_goesOn_X9_becomes rfl (by decide +kernel) rfl ⟨by decide, by decide⟩ rfl rfl rfl rfl (Nat.le_of_ble_eq_true rfl) dX9_goesOn_30 (fun H locs hP hD hS => ?_)
      refine W.eq (g2 := F0 m 33 ls []) rfl ?_
      exact b33 _ _ _ _ _ hf (lv_sub hl [0, 1] rfl) hP hD hS
def FM_days_162 (ag55 : MS → Int32 → Int32 → Int32 → Option (Int32 × MS)) (ag99 : MS → Int32 → Int32 → Int32 → Int32 → Option (Int32 × MS)) (σ : MS) (l1 : Int32) (l2 : Int32) (l3 : Int32) (l4 : Int32) : Option (Int32 × MS) :=
  nm (l4 + 1) fun (x31 : Int32) => ag99 σ l1 l2 l3 x31
def FM_days_99 (ag55 : MS → Int32 → Int32 → Int32 → Option (Int32 × MS)) : Nat → MS → Int32 → Int32 → Int32 → Int32 → Option (Int32 × MS)
  | 0, _, _, _, _, _ => none
  | n + 1, σ, l1, l2, l3, l4 => gd (¬ ((3 : Int32) < 0 ∨ 147 ≤ Int32.toNatClampNeg 3)) (if (σ.2 5 (Int32.toNatClampNeg 3)) ≤ l4 then (nm (l3 + 1) fun (x20 : Int32) => ag55 σ l1 l2 x20) else (Option.bind (FM_of σ l4 5) fun (r21 : Int32) => if r21 = 0 then (Option.bind (FM_of σ l4 0) fun (r23 : Int32) => if r23 = 5 then (FM_days_162 ag55 (FM_days_99 ag55 n) σ l1 l2 l3 l4) else (Option.bind (FM_of σ l4 2) fun (r25 : Int32) => Option.bind (FM_spanOf σ l4) fun (r26 : Int32) => if r25 ≤ r26 then (FM_days_162 ag55 (FM_days_99 ag55 n) σ l1 l2 l3 l4) else (Option.bind (FM_becomes σ l4 5 1) fun (σ29 : MS) => nm (l2 ||| (1 <<< (l4 &&& 31))) fun (x30 : Int32) => FM_days_162 ag55 (FM_days_99 ag55 n) σ29 l1 x30 l3 l4))) else (FM_days_162 ag55 (FM_days_99 ag55 n) σ l1 l2 l3 l4)))
def FM_days_73 (ag55 : MS → Int32 → Int32 → Int32 → Option (Int32 × MS)) : Nat → MS → Int32 → Int32 → Int32 → Int32 → Option (Int32 × MS)
  | 0, _, _, _, _, _ => none
  | n + 1, σ, l1, l2, l3, l4 => gd (¬ ((3 : Int32) < 0 ∨ 147 ≤ Int32.toNatClampNeg 3)) (if (σ.2 5 (Int32.toNatClampNeg 3)) ≤ l4 then (FM_days_99 ag55 fuelN σ l1 l2 l3 0) else (Option.bind (FM_goesOn σ l4) fun (σ16 : MS) => nm (l4 + 1) fun (x17 : Int32) => (FM_days_73 ag55 n) σ16 l1 l2 l3 x17))
def FM_days_55  : Nat → MS → Int32 → Int32 → Int32 → Option (Int32 × MS)
  | 0, _, _, _, _ => none
  | n + 1, σ, l1, l2, l3 => if l1 ≤ l3 then (some (l2, σ)) else (gd (¬ ((4 : Int32) < 0 ∨ 147 ≤ Int32.toNatClampNeg 4)) (gd (¬ ((4 : Int32) < 0 ∨ 147 ≤ Int32.toNatClampNeg 4)) (nm (setA σ 5 (Int32.toNatClampNeg 4) ((σ.2 5 (Int32.toNatClampNeg 4)) + 1)) fun (σ12 : MS) => FM_days_73 (FM_days_55 n) fuelN σ12 l1 l2 l3 0)))
def FM_days (σ : MS) (a1 : Int32) : Option (Int32 × MS) :=
  nm (setF σ 0 0) fun (σ1 : MS) => if (σ1.1 7) = 0 then (some ((-1000002), σ1)) else (Option.bind (FM_in (Int32.toInt64 a1) 1 99) fun (r3 : Int32) => if r3 = 0 then (some ((-1000001), σ1)) else (gd (¬ ((4 : Int32) < 0 ∨ 147 ≤ Int32.toNatClampNeg 4)) (if ((σ1.2 5 (Int32.toNatClampNeg 4)) + a1) ≤ 9999 then (Option.bind (FM_keep σ1) fun (σ8 : MS) => FM_days_55 fuelN σ8 a1 0 0) else (some ((-1000003), σ1)))))
set_option maxHeartbeats 4000000 in
set_option maxRecDepth 100000 in
theorem kM_days (l : Launch) (D : va_G) (h : Nat → Nat) (cI cZ : ClassId) (σ : MS) (a1 : Int32) (r : Int32) (σ' : MS) (hf : FM_days σ a1 = some (r, σ')) : KK l D [(cI, .int), (cZ, .boolean)] yX9_days wsX9_days 4 85 [.ref (h 0), .int a1] (mw h cI cZ σ) (some (.int r)) (mw h cI cZ σ') := by
  refine KK.ofI (own := RX9) (cc := cX9_days) (maxL := 5) (by decide) rfl rfl (Nat.le_of_ble_eq_true rfl) ?_
  intro p e s m args below meth c R Q A ls S hRf hRl hK hA hP hD hS hl hret
  obtain ⟨hx, hb, hml, hown, hts⟩ := id S
  have hin : ∀ w ∈ wsX90, w ∈ wsX9_days := fun w hw => List.mem_cons_of_mem _ (List.mem_append_right _ hw)
  have f47 := hts (.fieldLink RX9 47 "PenniesAwayModel" "thrown" "I") (by decide +kernel)
  have f179 := hts (.fieldLink RX9 179 "PenniesAwayModel" "isThere" "Z") (by decide +kernel)
  have c229 := hts (.constantLong RX9 229 (99)) (by decide +kernel)
  have f19 := hts (.fieldLink RX9 19 "PenniesAwayModel" "realm" "[I") (by decide +kernel)
  have c77 := hts (.constant RX9 77 (-1000003)) (by decide +kernel)
  have c67 := hts (.constant RX9 67 (-1000001)) (by decide +kernel)
  have c210 := hts (.constant RX9 210 (-1000002)) (by decide +kernel)
  have hl : lv_has ls 5 [(0, .ref (h 0)), (1, .int a1)] := hl
  have hre : ∀ (x : Int32) (σx : MS) (pc : Nat) (ls : Array Slot) (H : Heap) (locs : List Loc), (some (x, σx) : Option (Int32 × MS)) = some (r, σ') → va_P D vwCl (mw h cI cZ σx) H → va_D A (mw h cI cZ σx) → va_S A s.heap H locs → decode cX9_days pc = .ok (.ireturn, 1) → W p l e R s m args below meth c H locs 0 0 Q (F0 m pc ls [.int x]) := by intro x σx pc ls H locs he; cases he; exact hret pc ls H locs
  have b162 : ∀ (ag55 : MS → Int32 → Int32 → Int32 → Option (Int32 × MS)) (hag55 : ∀ (σ : MS) (l1 : Int32) (l2 : Int32) (l3 : Int32) (ls : Array Slot) (H : Heap) (locs : List Loc), ag55 σ l1 l2 l3 = some (r, σ') → lv_has ls 5 [(0, .ref (h 0)), (1, .int l1), (2, .int l2), (3, .int l3)] → va_P D vwCl (mw h cI cZ σ) H → va_D A (mw h cI cZ σ) → va_S A s.heap H locs → W p l e R s m args below meth c H locs 0 0 Q (F0 m 55 ls [])) (ag99 : MS → Int32 → Int32 → Int32 → Int32 → Option (Int32 × MS)) (hag99 : ∀ (σ : MS) (l1 : Int32) (l2 : Int32) (l3 : Int32) (l4 : Int32) (ls : Array Slot) (H : Heap) (locs : List Loc), ag99 σ l1 l2 l3 l4 = some (r, σ') → lv_has ls 5 [(0, .ref (h 0)), (1, .int l1), (2, .int l2), (3, .int l3), (4, .int l4)] → va_P D vwCl (mw h cI cZ σ) H → va_D A (mw h cI cZ σ) → va_S A s.heap H locs → W p l e R s m args below meth c H locs 0 0 Q (F0 m 99 ls [])), ∀ (σ : MS) (l1 : Int32) (l2 : Int32) (l3 : Int32) (l4 : Int32) (ls : Array Slot) (H : Heap) (locs : List Loc), FM_days_162 ag55 ag99 σ l1 l2 l3 l4 = some (r, σ') → lv_has ls 5 [(0, .ref (h 0)), (1, .int l1), (2, .int l2), (3, .int l3), (4, .int l4)] → va_P D vwCl (mw h cI cZ σ) H → va_D A (mw h cI cZ σ) → va_S A s.heap H locs → W p l e R s m args below meth c H locs 0 0 Q (F0 m 162 ls []) := by
    intro ag55 hag55 ag99 hag99 σ l1 l2 l3 l4 ls H locs hf hl hP hD hS
    unfold FM_days_162 at hf
    obtain ⟨x31, ex31, hf⟩ := nm_some hf
    refine lv_iinc (v := x31) (lv' := [(4, .int x31), (0, .ref (h 0)), (1, .int l1), (2, .int l2), (3, .int l3)]) hx hb dX9_days_162 hl (k := 4) rfl (by rw [ex31]; rfl) (by decide) rfl (fun ls hl => ?_)
    refine lv_goto (tgt := 99) hx hb dX9_days_165 (by decide) ?_
    exact hag99 _ _ _ _ _ _ _ _ hf (lv_sub hl [1, 2, 3, 4, 0] rfl) hP hD hS
  have b99 : ∀ (ag55 : MS → Int32 → Int32 → Int32 → Option (Int32 × MS)) (hag55 : ∀ (σ : MS) (l1 : Int32) (l2 : Int32) (l3 : Int32) (ls : Array Slot) (H : Heap) (locs : List Loc), ag55 σ l1 l2 l3 = some (r, σ') → lv_has ls 5 [(0, .ref (h 0)), (1, .int l1), (2, .int l2), (3, .int l3)] → va_P D vwCl (mw h cI cZ σ) H → va_D A (mw h cI cZ σ) → va_S A s.heap H locs → W p l e R s m args below meth c H locs 0 0 Q (F0 m 55 ls [])) (n : Nat), ∀ (σ : MS) (l1 : Int32) (l2 : Int32) (l3 : Int32) (l4 : Int32) (ls : Array Slot) (H : Heap) (locs : List Loc), FM_days_99 ag55 n σ l1 l2 l3 l4 = some (r, σ') → lv_has ls 5 [(0, .ref (h 0)), (1, .int l1), (2, .int l2), (3, .int l3), (4, .int l4)] → va_P D vwCl (mw h cI cZ σ) H → va_D A (mw h cI cZ σ) → va_S A s.heap H locs → W p l e R s m args below meth c H locs 0 0 Q (F0 m 99 ls []) := by
    intro ag55 hag55 n
    induction n with
    | zero => intro σ l1 l2 l3 l4 ls H locs hf; exact absurd hf (by simp [FM_days_99])
    | succ n ih =>
      intro σ l1 l2 l3 l4 ls H locs hf hl hP hD hS
      rw [FM_days_99] at hf
      refine lv_iload hx hb dX9_days_99 (lv_at hl 4 rfl) ?_
      refine lv_aload_n hx hb dX9_days_101 rfl (lv_at hl 0 rfl) ?_
      refine Mg_5 S hin hK hP f19 dX9_days_102 ?_
      refine lv_iconst (v := 3) hx hb dX9_days_105 (by decide) ?_
      obtain ⟨g18, hf⟩ := gd_some hf
      refine Ml_5 S hK hP g18 dX9_days_106 ?_
      refine lv_icmp_ge (tgt := 168) hx hb dX9_days_107 (by decide) (fun c19 => ?_) (fun c19 => ?_)
      · have hf := (if_pos c19).symm.trans hf
        obtain ⟨x20, ex20, hf⟩ := nm_some hf
        refine lv_iinc (v := x20) (lv' := [(3, .int x20), (0, .ref (h 0)), (1, .int l1), (2, .int l2), (4, .int l4)]) hx hb dX9_days_168 hl (k := 3) rfl (by rw [ex20]; rfl) (by decide) rfl (fun ls hl => ?_)
        refine lv_goto (tgt := 55) hx hb dX9_days_171 (by decide) ?_
        exact hag55 _ _ _ _ _ _ _ hf (lv_sub hl [1, 2, 3, 0] rfl) hP hD hS
      · have hf := (if_neg c19).symm.trans hf
        refine lv_aload_n hx hb dX9_days_110 rfl (lv_at hl 0 rfl) ?_
        refine lv_iload hx hb dX9_days_111 (lv_at hl 4 rfl) ?_
        refine lv_iconst (v := 5) hx hb dX9_days_113 (by decide) ?_
        obtain ⟨r21, hr21, hf⟩ := bi_some hf
        refine kc_v (ci := 8) (q0 := 0) (n := 2) S hRf hRl hK hA hP hD hS hl [.int l4, .int 5] [] (kM_of l D h cI cZ σ l4 5 r21 hr21) gX9_days_X9_of rfl (by decide +kernel) rfl ⟨by decide, by decide⟩ rfl rfl rfl rfl (Nat.le_of_ble_eq_true rfl) dX9_days_114 (fun H locs hP hD hS => ?_)
        refine W.eq (g2 := F0 m 117 ls [.int r21]) rfl ?_
        refine lv_if_ne (tgt := 162) hx hb dX9_days_117 (by decide) (fun c22 => ?_) (fun c22 => ?_)
        · have hf := (if_neg c22).symm.trans hf
          exact b162 ag55 hag55 (FM_days_99 ag55 n) ih _ _ _ _ _ _ _ _ hf (lv_sub hl [0, 1, 2, 3, 4] rfl) hP hD hS
        · have hf := (if_pos c22).symm.trans hf
          refine lv_aload_n hx hb dX9_days_120 rfl (lv_at hl 0 rfl) ?_
          refine lv_iload hx hb dX9_days_121 (lv_at hl 4 rfl) ?_
          refine lv_iconst (v := 0) hx hb dX9_days_123 (by decide) ?_
          obtain ⟨r23, hr23, hf⟩ := bi_some hf
          refine kc_v (ci := 8) (q0 := 0) (n := 2) S hRf hRl hK hA hP hD hS hl [.int l4, .int 0] [] (kM_of l D h cI cZ σ l4 0 r23 hr23) gX9_days_X9_of rfl (by decide +kernel) rfl ⟨by decide, by decide⟩ rfl rfl rfl rfl (Nat.le_of_ble_eq_true rfl) dX9_days_124 (fun H locs hP hD hS => ?_)
          refine W.eq (g2 := F0 m 127 ls [.int r23]) rfl ?_
          refine lv_iconst (v := 5) hx hb dX9_days_127 (by decide) ?_
          refine lv_icmp_eq (tgt := 162) hx hb dX9_days_128 (by decide) (fun c24 => ?_) (fun c24 => ?_)
          · have hf := (if_pos c24).symm.trans hf
            exact b162 ag55 hag55 (FM_days_99 ag55 n) ih _ _ _ _ _ _ _ _ hf (lv_sub hl [0, 1, 2, 3, 4] rfl) hP hD hS
          · have hf := (if_neg c24).symm.trans hf
            refine lv_aload_n hx hb dX9_days_131 rfl (lv_at hl 0 rfl) ?_
            refine lv_iload hx hb dX9_days_132 (lv_at hl 4 rfl) ?_
            refine lv_iconst (v := 2) hx hb dX9_days_134 (by decide) ?_
            obtain ⟨r25, hr25, hf⟩ := bi_some hf
            refine kc_v (ci := 8) (q0 := 0) (n := 2) S hRf hRl hK hA hP hD hS hl [.int l4, .int 2] [] (kM_of l D h cI cZ σ l4 2 r25 hr25) gX9_days_X9_of rfl (by decide +kernel) rfl ⟨by decide, by decide⟩ rfl rfl rfl rfl (Nat.le_of_ble_eq_true rfl) dX9_days_135 (fun H locs hP hD hS => ?_)
            refine W.eq (g2 := F0 m 138 ls [.int r25]) rfl ?_
            refine lv_aload_n hx hb dX9_days_138 rfl (lv_at hl 0 rfl) ?_
            refine lv_iload hx hb dX9_days_139 (lv_at hl 4 rfl) ?_
            obtain ⟨r26, hr26, hf⟩ := bi_some hf
            refine kc_v (ci := 8) (q0 := 0) (n := 1) S hRf hRl hK hA hP hD hS hl [.int l4] [.int r25] (kM_spanOf l D h cI cZ σ l4 r26 hr26) gX9_days_X9_spanOf rfl (by decide +kernel) rfl ⟨by decide, by decide⟩ rfl rfl rfl rfl (Nat.le_of_ble_eq_true rfl) dX9_days_141 (fun H locs hP hD hS => ?_)
            refine W.eq (g2 := F0 m 144 ls [.int r26, .int r25]) rfl ?_
            refine lv_icmp_le (tgt := 162) hx hb dX9_days_144 (by decide) (fun c27 => ?_) (fun c27 => ?_)
            · have hf := (if_pos c27).symm.trans hf
              exact b162 ag55 hag55 (FM_days_99 ag55 n) ih _ _ _ _ _ _ _ _ hf (lv_sub hl [0, 1, 2, 3, 4] rfl) hP hD hS
            · have hf := (if_neg c27).symm.trans hf
              refine lv_aload_n hx hb dX9_days_147 rfl (lv_at hl 0 rfl) ?_
              refine lv_iload hx hb dX9_days_148 (lv_at hl 4 rfl) ?_
              refine lv_iconst (v := 5) hx hb dX9_days_150 (by decide) ?_
              refine lv_iconst (v := 1) hx hb dX9_days_151 (by decide) ?_
              obtain ⟨σ29, hr28, hf⟩ := bi_some hf
              refine kc_v (ci := 8) (q0 := 0) (n := 3) S hRf hRl hK hA hP hD hS hl [.int l4, .int 5, .int 1] [] (kM_becomes l D h cI cZ σ l4 5 1 σ29 hr28) gX9_days_X9_becomes rfl (by decide +kernel) rfl ⟨by decide, by decide⟩ rfl rfl rfl rfl (Nat.le_of_ble_eq_true rfl) dX9_days_152 (fun H locs hP hD hS => ?_)
              refine W.eq (g2 := F0 m 155 ls []) rfl ?_
              refine lv_iload_n hx hb dX9_days_155 rfl (lv_at hl 2 rfl) ?_
              refine lv_iconst (v := 1) hx hb dX9_days_156 (by decide) ?_
              refine lv_iload hx hb dX9_days_157 (lv_at hl 4 rfl) ?_
              refine lv_ishl hx hb dX9_days_159 ?_
              refine lv_ior hx hb dX9_days_160 ?_
              refine lv_topi (fun x30 ex30 => ?_)
              have hf := nm_at ex30 hf
              refine lv_istore_n (lv' := [(2, .int x30), (0, .ref (h 0)), (1, .int l1), (3, .int l3), (4, .int l4)]) hx hb dX9_days_161 rfl hl (by decide) rfl (fun ls hl => ?_)
              exact b162 ag55 hag55 (FM_days_99 ag55 n) ih _ _ _ _ _ _ _ _ hf (lv_sub hl [1, 2, 0, 3, 4] rfl) hP hD hS
  have b73 : ∀ (ag55 : MS → Int32 → Int32 → Int32 → Option (Int32 × MS)) (hag55 : ∀ (σ : MS) (l1 : Int32) (l2 : Int32) (l3 : Int32) (ls : Array Slot) (H : Heap) (locs : List Loc), ag55 σ l1 l2 l3 = some (r, σ') → lv_has ls 5 [(0, .ref (h 0)), (1, .int l1), (2, .int l2), (3, .int l3)] → va_P D vwCl (mw h cI cZ σ) H → va_D A (mw h cI cZ σ) → va_S A s.heap H locs → W p l e R s m args below meth c H locs 0 0 Q (F0 m 55 ls [])) (n : Nat), ∀ (σ : MS) (l1 : Int32) (l2 : Int32) (l3 : Int32) (l4 : Int32) (ls : Array Slot) (H : Heap) (locs : List Loc), FM_days_73 ag55 n σ l1 l2 l3 l4 = some (r, σ') → lv_has ls 5 [(0, .ref (h 0)), (1, .int l1), (2, .int l2), (3, .int l3), (4, .int l4)] → va_P D vwCl (mw h cI cZ σ) H → va_D A (mw h cI cZ σ) → va_S A s.heap H locs → W p l e R s m args below meth c H locs 0 0 Q (F0 m 73 ls []) := by
    intro ag55 hag55 n
    induction n with
    | zero => intro σ l1 l2 l3 l4 ls H locs hf; exact absurd hf (by simp [FM_days_73])
    | succ n ih =>
      intro σ l1 l2 l3 l4 ls H locs hf hl hP hD hS
      rw [FM_days_73] at hf
      refine lv_iload hx hb dX9_days_73 (lv_at hl 4 rfl) ?_
      refine lv_aload_n hx hb dX9_days_75 rfl (lv_at hl 0 rfl) ?_
      refine Mg_5 S hin hK hP f19 dX9_days_76 ?_
      refine lv_iconst (v := 3) hx hb dX9_days_79 (by decide) ?_
      obtain ⟨g13, hf⟩ := gd_some hf
      refine Ml_5 S hK hP g13 dX9_days_80 ?_
      refine lv_icmp_ge (tgt := 96) hx hb dX9_days_81 (by decide) (fun c14 => ?_) (fun c14 => ?_)
      · have hf := (if_pos c14).symm.trans hf
        refine lv_iconst (v := 0) hx hb dX9_days_96 (by decide) ?_
        refine lv_istore (lv' := [(4, .int 0), (0, .ref (h 0)), (1, .int l1), (2, .int l2), (3, .int l3)]) hx hb dX9_days_97 hl (by decide) rfl (fun ls hl => ?_)
        exact b99 ag55 hag55 fuelN _ _ _ _ _ _ _ _ hf (lv_sub hl [1, 2, 3, 4, 0] rfl) hP hD hS
      · have hf := (if_neg c14).symm.trans hf
        refine lv_aload_n hx hb dX9_days_84 rfl (lv_at hl 0 rfl) ?_
        refine lv_iload hx hb dX9_days_85 (lv_at hl 4 rfl) ?_
        obtain ⟨σ16, hr15, hf⟩ := bi_some hf
        refine kc_v (ci := 8) (q0 := 0) (n := 1) S hRf hRl hK hA hP hD hS hl [.int l4] [] (kM_goesOn l D h cI cZ σ l4 σ16 hr15) gX9_days_X9_goesOn rfl (by decide +kernel) rfl ⟨by decide, by decide⟩ rfl rfl rfl rfl (Nat.le_of_ble_eq_true rfl) dX9_days_87 (fun H locs hP hD hS => ?_)
        refine W.eq (g2 := F0 m 90 ls []) rfl ?_
        obtain ⟨x17, ex17, hf⟩ := nm_some hf
        refine lv_iinc (v := x17) (lv' := [(4, .int x17), (0, .ref (h 0)), (1, .int l1), (2, .int l2), (3, .int l3)]) hx hb dX9_days_90 hl (k := 4) rfl (by rw [ex17]; rfl) (by decide) rfl (fun ls hl => ?_)
        refine lv_goto (tgt := 73) hx hb dX9_days_93 (by decide) ?_
        exact ih _ _ _ _ _ _ _ _ hf (lv_sub hl [1, 2, 3, 4, 0] rfl) hP hD hS
  have b55 : ∀ (n : Nat), ∀ (σ : MS) (l1 : Int32) (l2 : Int32) (l3 : Int32) (ls : Array Slot) (H : Heap) (locs : List Loc), FM_days_55 n σ l1 l2 l3 = some (r, σ') → lv_has ls 5 [(0, .ref (h 0)), (1, .int l1), (2, .int l2), (3, .int l3)] → va_P D vwCl (mw h cI cZ σ) H → va_D A (mw h cI cZ σ) → va_S A s.heap H locs → W p l e R s m args below meth c H locs 0 0 Q (F0 m 55 ls []) := by
    intro n
    induction n with
    | zero => intro σ l1 l2 l3 ls H locs hf; exact absurd hf (by simp [FM_days_55])
    | succ n ih =>
      intro σ l1 l2 l3 ls H locs hf hl hP hD hS
      rw [FM_days_55] at hf
      refine lv_iload_n hx hb dX9_days_55 rfl (lv_at hl 3 rfl) ?_
      refine lv_iload_n hx hb dX9_days_56 rfl (lv_at hl 1 rfl) ?_
      refine lv_icmp_ge (tgt := 174) hx hb dX9_days_57 (by decide) (fun c9 => ?_) (fun c9 => ?_)
      · have hf := (if_pos c9).symm.trans hf
        refine lv_iload_n hx hb dX9_days_174 rfl (lv_at hl 2 rfl) ?_
        exact hre _ _ _ _ _ _ hf hP hD hS dX9_days_175
      · have hf := (if_neg c9).symm.trans hf
        refine lv_aload_n hx hb dX9_days_60 rfl (lv_at hl 0 rfl) ?_
        refine Mg_5 S hin hK hP f19 dX9_days_61 ?_
        refine lv_iconst (v := 4) hx hb dX9_days_64 (by decide) ?_
        refine lv_dup2_11 hx hb dX9_days_65 rfl rfl ?_
        obtain ⟨g10, hf⟩ := gd_some hf
        refine Ml_5 S hK hP g10 dX9_days_66 ?_
        refine lv_iconst (v := 1) hx hb dX9_days_67 (by decide) ?_
        refine lv_iadd hx hb dX9_days_68 ?_
        obtain ⟨g11, hf⟩ := gd_some hf
        refine Ms_5 S hK hP hD hS g11 dX9_days_69 (fun H locs hP hD hS => ?_)
        obtain ⟨σ12, eσ12, hf⟩ := nm_some hf
        rw [← eσ12] at hP hD
        refine lv_iconst (v := 0) hx hb dX9_days_70 (by decide) ?_
        refine lv_istore (lv' := [(4, .int 0), (0, .ref (h 0)), (1, .int l1), (2, .int l2), (3, .int l3)]) hx hb dX9_days_71 hl (by decide) rfl (fun ls hl => ?_)
        exact b73 (FM_days_55 n) ih fuelN _ _ _ _ _ _ _ _ hf (lv_sub hl [1, 2, 3, 4, 0] rfl) hP hD hS
  unfold FM_days at hf
  refine lv_aload_n hx hb dX9_days_0 rfl (lv_at hl 0 rfl) ?_
  refine lv_iconst (v := 0) hx hb dX9_days_1 (by decide) ?_
  refine Mp_0 S hin hK hP hD hS f47 dX9_days_2 (fun H locs hP hD hS => ?_)
  obtain ⟨σ1, eσ1, hf⟩ := nm_some hf
  rw [← eσ1] at hP hD
  refine lv_aload_n hx hb dX9_days_5 rfl (lv_at hl 0 rfl) ?_
  refine Mg_7 S hin hK hP f179 dX9_days_6 ?_
  refine lv_if_ne (tgt := 15) hx hb dX9_days_9 (by decide) (fun c2 => ?_) (fun c2 => ?_)
  · have hf := (if_neg c2).symm.trans hf
    refine lv_iload_n hx hb dX9_days_15 rfl (lv_at hl 1 rfl) ?_
    refine lv_i2l hx hb dX9_days_16 rfl ?_
    refine lv_lconst (v := 1) hx hb dX9_days_17 (by decide) ?_
    refine lv_ldc2 (v := 99) hx hb hown c229 dX9_days_18 ?_
    obtain ⟨r3, hr3, hf⟩ := bi_some hf
    refine kc_s (n := 3) S hRf hRl hK hA hP hD hS hl [.long (Int32.toInt64 a1), .long 1, .long 99] [] (kM_in l D _ _ (Int32.toInt64 a1) 1 99 r3 hr3) gX9_days_X9_in rfl (by decide +kernel) rfl ⟨by decide, by decide⟩ rfl (Nat.le_of_ble_eq_true rfl) dX9_days_21 (fun H locs hP hD hS => ?_)
    refine W.eq (g2 := F0 m 24 ls [.int r3]) rfl ?_
    refine lv_if_ne (tgt := 30) hx hb dX9_days_24 (by decide) (fun c4 => ?_) (fun c4 => ?_)
    · have hf := (if_neg c4).symm.trans hf
      refine lv_aload_n hx hb dX9_days_30 rfl (lv_at hl 0 rfl) ?_
      refine Mg_5 S hin hK hP f19 dX9_days_31 ?_
      refine lv_iconst (v := 4) hx hb dX9_days_34 (by decide) ?_
      obtain ⟨g5, hf⟩ := gd_some hf
      refine Ml_5 S hK hP g5 dX9_days_35 ?_
      refine lv_iload_n hx hb dX9_days_36 rfl (lv_at hl 1 rfl) ?_
      refine lv_iadd hx hb dX9_days_37 ?_
      refine lv_sipush (v := 9999) hx hb dX9_days_38 (by decide) ?_
      refine lv_icmp_le (tgt := 47) hx hb dX9_days_41 (by decide) (fun c6 => ?_) (fun c6 => ?_)
      · have hf := (if_pos c6).symm.trans hf
        refine lv_aload_n hx hb dX9_days_47 rfl (lv_at hl 0 rfl) ?_
        obtain ⟨σ8, hr7, hf⟩ := bi_some hf
        refine kc_v (ci := 8) (q0 := 0) (n := 0) S hRf hRl hK hA hP hD hS hl [] [] (kM_keep l D h cI cZ σ1  σ8 hr7) gX9_days_X9_keep rfl (by decide +kernel) rfl ⟨by decide, by decide⟩ rfl rfl rfl rfl (Nat.le_of_ble_eq_true rfl) dX9_days_48 (fun H locs hP hD hS => ?_)
        refine W.eq (g2 := F0 m 51 ls []) rfl ?_
        refine lv_iconst (v := 0) hx hb dX9_days_51 (by decide) ?_
        refine lv_istore_n (lv' := [(2, .int 0), (0, .ref (h 0)), (1, .int a1)]) hx hb dX9_days_52 rfl hl (by decide) rfl (fun ls hl => ?_)
        refine lv_iconst (v := 0) hx hb dX9_days_53 (by decide) ?_
        refine lv_istore_n (lv' := [(3, .int 0), (2, .int 0), (0, .ref (h 0)), (1, .int a1)]) hx hb dX9_days_54 rfl hl (by decide) rfl (fun ls hl => ?_)
        exact b55 fuelN _ _ _ _ _ _ _ hf (lv_sub hl [2, 3, 1, 0] rfl) hP hD hS
      · have hf := (if_neg c6).symm.trans hf
        refine lv_ldc (v := (-1000003)) hx hb hown c77 dX9_days_44 ?_
        exact hre _ _ _ _ _ _ hf hP hD hS dX9_days_46
    · have hf := (if_pos c4).symm.trans hf
      refine lv_ldc (v := (-1000001)) hx hb hown c67 dX9_days_27 ?_
      exact hre _ _ _ _ _ _ hf hP hD hS dX9_days_29
  · have hf := (if_pos c2).symm.trans hf
    refine lv_ldc (v := (-1000002)) hx hb hown c210 dX9_days_12 ?_
    exact hre _ _ _ _ _ _ hf hP hD hS dX9_days_14
