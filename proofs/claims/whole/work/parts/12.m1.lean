def FM_in (a0 : Int64) (a2 : Int64) (a4 : Int64) : Option Int32 :=
  if (lg_cmp a0 a2) < 0 then (some 0) else (if 0 < (lg_cmp a0 a4) then (some 0) else (some 1))
set_option maxHeartbeats 4000000 in
set_option maxRecDepth 100000 in
theorem kM_in (l : Launch) (D : va_G) (tys : List (ClassId × FieldType)) (w0 : va_W) (a0 : Int64) (a2 : Int64) (a4 : Int64) (r : Int32) (hf : FM_in a0 a2 a4 = some r) : KK l D tys yX9_in wsX9_in 0 0 [.long a0, .long a2, .long a4] w0 (some (.int r)) w0 := by
  refine KK.ofZ (own := RX9) (cc := cX9_in) (maxL := 6) (by decide) rfl rfl (Nat.le_of_ble_eq_true rfl) ?_
  intro p e s m args below meth c R Q A ls S hRf hRl hK hA hP hD hS hl hret
  obtain ⟨hx, hb, hml, hown, hts⟩ := id S
  have hl : lv_has ls 6 [(0, .long a0), (2, .long a2), (4, .long a4)] := hl
  have hre : ∀ (x : Int32) (pc : Nat) (ls : Array Slot) (H : Heap) (locs : List Loc), (some x : Option Int32) = some r → va_P D vwCl w0 H → va_D A w0 → va_S A s.heap H locs → decode cX9_in pc = .ok (.ireturn, 1) → narrow .boolean (.int x) = .int x → W p l e R s m args below meth c H locs 0 0 Q (F0 m pc ls [.int x]) := by intro x pc ls H locs he; cases he; exact hret pc ls H locs
  unfold FM_in at hf
  refine lv_lload_n hx hb dX9_in_0 rfl (lv_at hl 0 rfl) ?_
  refine lv_lload_n hx hb dX9_in_1 rfl (lv_at hl 1 rfl) ?_
  refine W.lcmp hx hb dX9_in_2 ?_
  refine lv_if_lt (tgt := 17) hx hb dX9_in_3 (by decide) (fun c1 => ?_) (fun c1 => ?_)
  · have hf := (if_pos c1).symm.trans hf
    refine lv_iconst (v := 0) hx hb dX9_in_17 (by decide) ?_
    exact hre _ _ _ _ _ hf hP hD hS dX9_in_18 rfl
  · have hf := (if_neg c1).symm.trans hf
    refine lv_lload_n hx hb dX9_in_6 rfl (lv_at hl 0 rfl) ?_
    refine lv_lload hx hb dX9_in_7 (lv_at hl 2 rfl) ?_
    refine W.lcmp hx hb dX9_in_9 ?_
    refine lv_if_gt (tgt := 17) hx hb dX9_in_10 (by decide) (fun c2 => ?_) (fun c2 => ?_)
    · have hf := (if_pos c2).symm.trans hf
      refine lv_iconst (v := 0) hx hb dX9_in_17 (by decide) ?_
      exact hre _ _ _ _ _ hf hP hD hS dX9_in_18 rfl
    · have hf := (if_neg c2).symm.trans hf
      refine lv_iconst (v := 1) hx hb dX9_in_13 (by decide) ?_
      refine lv_goto (tgt := 18) hx hb dX9_in_14 (by decide) ?_
      exact hre _ _ _ _ _ hf hP hD hS dX9_in_18 rfl
def FM_finding (σ : MS) (a1 : Int32) : Option (Int32 × MS) :=
  nm (setF σ 1 a1) fun (σ1 : MS) => some (((-1000010) - a1), σ1)
set_option maxHeartbeats 4000000 in
set_option maxRecDepth 100000 in
theorem kM_finding (l : Launch) (D : va_G) (h : Nat → Nat) (cI cZ : ClassId) (σ : MS) (a1 : Int32) (r : Int32) (σ' : MS) (hf : FM_finding σ a1 = some (r, σ')) : KK l D [(cI, .int), (cZ, .boolean)] yX9_finding wsX9_finding 0 0 [.ref (h 0), .int a1] (mw h cI cZ σ) (some (.int r)) (mw h cI cZ σ') := by
  refine KK.ofI (own := RX9) (cc := cX9_finding) (maxL := 2) (by decide) rfl rfl (Nat.le_of_ble_eq_true rfl) ?_
  intro p e s m args below meth c R Q A ls S hRf hRl hK hA hP hD hS hl hret
  obtain ⟨hx, hb, hml, hown, hts⟩ := id S
  have hin : ∀ w ∈ wsX90, w ∈ wsX9_finding := fun w hw => List.mem_cons_of_mem _ (List.mem_append_right _ hw)
  have f51 := hts (.fieldLink RX9 51 "PenniesAwayModel" "status" "I") (by decide +kernel)
  have c54 := hts (.constant RX9 54 (-1000010)) (by decide +kernel)
  have hl : lv_has ls 2 [(0, .ref (h 0)), (1, .int a1)] := hl
  have hre : ∀ (x : Int32) (σx : MS) (pc : Nat) (ls : Array Slot) (H : Heap) (locs : List Loc), (some (x, σx) : Option (Int32 × MS)) = some (r, σ') → va_P D vwCl (mw h cI cZ σx) H → va_D A (mw h cI cZ σx) → va_S A s.heap H locs → decode cX9_finding pc = .ok (.ireturn, 1) → W p l e R s m args below meth c H locs 0 0 Q (F0 m pc ls [.int x]) := by intro x σx pc ls H locs he; cases he; exact hret pc ls H locs
  unfold FM_finding at hf
  refine lv_aload_n hx hb dX9_finding_0 rfl (lv_at hl 0 rfl) ?_
  refine lv_iload_n hx hb dX9_finding_1 rfl (lv_at hl 1 rfl) ?_
  refine Mp_1 S hin hK hP hD hS f51 dX9_finding_2 (fun H locs hP hD hS => ?_)
  obtain ⟨σ1, eσ1, hf⟩ := nm_some hf
  rw [← eσ1] at hP hD
  refine lv_ldc (v := (-1000010)) hx hb hown c54 dX9_finding_5 ?_
  refine lv_iload_n hx hb dX9_finding_7 rfl (lv_at hl 1 rfl) ?_
  refine lv_isub hx hb dX9_finding_8 ?_
  exact hre _ _ _ _ _ _ hf hP hD hS dX9_finding_9
def FM_isRow (a0 : Int32) : Option Int32 :=
  Option.bind (FM_in (Int32.toInt64 a0) 0 7) fun (r1 : Int32) => gd (r1 = 0 ∨ r1 = 1) (some r1)
set_option maxHeartbeats 4000000 in
set_option maxRecDepth 100000 in
theorem kM_isRow (l : Launch) (D : va_G) (tys : List (ClassId × FieldType)) (w0 : va_W) (a0 : Int32) (r : Int32) (hf : FM_isRow a0 = some r) : KK l D tys yX9_isRow wsX9_isRow 1 25 [.int a0] w0 (some (.int r)) w0 := by
  refine KK.ofZ (own := RX9) (cc := cX9_isRow) (maxL := 1) (by decide) rfl rfl (Nat.le_of_ble_eq_true rfl) ?_
  intro p e s m args below meth c R Q A ls S hRf hRl hK hA hP hD hS hl hret
  obtain ⟨hx, hb, hml, hown, hts⟩ := id S
  have c55 := hts (.constantLong RX9 55 (7)) (by decide +kernel)
  have hl : lv_has ls 1 [(0, .int a0)] := hl
  have hre : ∀ (x : Int32) (pc : Nat) (ls : Array Slot) (H : Heap) (locs : List Loc), (some x : Option Int32) = some r → va_P D vwCl w0 H → va_D A w0 → va_S A s.heap H locs → decode cX9_isRow pc = .ok (.ireturn, 1) → narrow .boolean (.int x) = .int x → W p l e R s m args below meth c H locs 0 0 Q (F0 m pc ls [.int x]) := by intro x pc ls H locs he; cases he; exact hret pc ls H locs
  unfold FM_isRow at hf
  refine lv_iload_n hx hb dX9_isRow_0 rfl (lv_at hl 0 rfl) ?_
  refine lv_i2l hx hb dX9_isRow_1 rfl ?_
  refine lv_lconst (v := 0) hx hb dX9_isRow_2 (by decide) ?_
  refine lv_ldc2 (v := 7) hx hb hown c55 dX9_isRow_3 ?_
  obtain ⟨r1, hr1, hf⟩ := bi_some hf
  refine kc_s (n := 3) S hRf hRl hK hA hP hD hS hl [.long (Int32.toInt64 a0), .long 0, .long 7] [] (kM_in l D _ _ (Int32.toInt64 a0) 0 7 r1 hr1) gX9_isRow_X9_in rfl (by decide +kernel) rfl ⟨by decide, by decide⟩ rfl (Nat.le_of_ble_eq_true rfl) dX9_isRow_6 (fun H locs hP hD hS => ?_)
  refine W.eq (g2 := F0 m 9 ls [.int r1]) rfl ?_
  obtain ⟨g2, hf⟩ := gd_some hf
  exact hre _ _ _ _ _ hf hP hD hS dX9_isRow_9 (by rcases g2 with g2 | g2 <;> (rw [g2]; rfl))
def FM_row_65  : Nat → MS → Int32 → Int32 → Int32 → Option (Int32 × MS)
  | 0, _, _, _, _ => none
  | n + 1, σ, l1, l3, l4 => if 40 ≤ l4 then (some (l3, σ)) else (gd (¬ ((((40 * l1) + l4) : Int32) < 0 ∨ 320 ≤ Int32.toNatClampNeg ((40 * l1) + l4))) (nm (setA σ 4 (Int32.toNatClampNeg ((40 * l1) + l4)) 0) fun (σ17 : MS) => nm (l4 + 1) fun (x18 : Int32) => (FM_row_65 n) σ17 l1 l3 x18))
def FM_row (σ : MS) (a1 : Int32) (a2 : Int32) (a3 : Int32) : Option (Int32 × MS) :=
  nm (setF σ 0 0) fun (σ1 : MS) => Option.bind (FM_isRow a1) fun (r2 : Int32) => if r2 = 0 then (some ((-1000001), σ1)) else (Option.bind (FM_in (Int32.toInt64 a2) 0 2) fun (r4 : Int32) => if r4 = 0 then (some ((-1000001), σ1)) else (if a3 ≤ 40 then (nm (setF σ1 1 0) fun (σ7 : MS) => if 0 ≤ a3 then (gd (¬ ((a1 : Int32) < 0 ∨ 8 ≤ Int32.toNatClampNeg a1)) (nm (setA σ7 2 (Int32.toNatClampNeg a1) a2) fun (σ10 : MS) => gd (¬ ((a1 : Int32) < 0 ∨ 8 ≤ Int32.toNatClampNeg a1)) (nm (setA σ10 3 (Int32.toNatClampNeg a1) a3) fun (σ12 : MS) => FM_row_65 fuelN σ12 a1 a3 0))) else (bd2 (FM_finding σ7 4) fun (r13 : Int32) (σ14 : MS) => some (r13, σ14))) else (some ((-1000001), σ1))))
set_option maxHeartbeats 4000000 in
set_option maxRecDepth 100000 in
theorem kM_row (l : Launch) (D : va_G) (h : Nat → Nat) (cI cZ : ClassId) (σ : MS) (a1 : Int32) (a2 : Int32) (a3 : Int32) (r : Int32) (σ' : MS) (hf : FM_row σ a1 a2 a3 = some (r, σ')) : KK l D [(cI, .int), (cZ, .boolean)] yX9_row wsX9_row 2 45 [.ref (h 0), .int a1, .int a2, .int a3] (mw h cI cZ σ) (some (.int r)) (mw h cI cZ σ') := by
  refine KK.ofI (own := RX9) (cc := cX9_row) (maxL := 5) (by decide) rfl rfl (Nat.le_of_ble_eq_true rfl) ?_
  intro p e s m args below meth c R Q A ls S hRf hRl hK hA hP hD hS hl hret
  obtain ⟨hx, hb, hml, hown, hts⟩ := id S
  have hin : ∀ w ∈ wsX90, w ∈ wsX9_row := fun w hw => List.mem_cons_of_mem _ (List.mem_append_right _ hw)
  have f47 := hts (.fieldLink RX9 47 "PenniesAwayModel" "thrown" "I") (by decide +kernel)
  have c67 := hts (.constant RX9 67 (-1000001)) (by decide +kernel)
  have c65 := hts (.constantLong RX9 65 (2)) (by decide +kernel)
  have f51 := hts (.fieldLink RX9 51 "PenniesAwayModel" "status" "I") (by decide +kernel)
  have f7 := hts (.fieldLink RX9 7 "PenniesAwayModel" "lane" "[I") (by decide +kernel)
  have f13 := hts (.fieldLink RX9 13 "PenniesAwayModel" "many" "[I") (by decide +kernel)
  have f16 := hts (.fieldLink RX9 16 "PenniesAwayModel" "item" "[I") (by decide +kernel)
  have hl : lv_has ls 5 [(0, .ref (h 0)), (1, .int a1), (2, .int a2), (3, .int a3)] := hl
  have hre : ∀ (x : Int32) (σx : MS) (pc : Nat) (ls : Array Slot) (H : Heap) (locs : List Loc), (some (x, σx) : Option (Int32 × MS)) = some (r, σ') → va_P D vwCl (mw h cI cZ σx) H → va_D A (mw h cI cZ σx) → va_S A s.heap H locs → decode cX9_row pc = .ok (.ireturn, 1) → W p l e R s m args below meth c H locs 0 0 Q (F0 m pc ls [.int x]) := by intro x σx pc ls H locs he; cases he; exact hret pc ls H locs
  have b65 : ∀ (n : Nat), ∀ (σ : MS) (l1 : Int32) (l3 : Int32) (l4 : Int32) (ls : Array Slot) (H : Heap) (locs : List Loc), FM_row_65 n σ l1 l3 l4 = some (r, σ') → lv_has ls 5 [(0, .ref (h 0)), (1, .int l1), (3, .int l3), (4, .int l4)] → va_P D vwCl (mw h cI cZ σ) H → va_D A (mw h cI cZ σ) → va_S A s.heap H locs → W p l e R s m args below meth c H locs 0 0 Q (F0 m 65 ls []) := by
    intro n
    induction n with
    | zero => intro σ l1 l3 l4 ls H locs hf; exact absurd hf (by simp [FM_row_65])
    | succ n ih =>
      intro σ l1 l3 l4 ls H locs hf hl hP hD hS
      rw [FM_row_65] at hf
      refine lv_iload hx hb dX9_row_65 (lv_at hl 3 rfl) ?_
      refine lv_bipush (v := 40) hx hb dX9_row_67 (by decide) ?_
      refine lv_icmp_ge (tgt := 91) hx hb dX9_row_69 (by decide) (fun c15 => ?_) (fun c15 => ?_)
      · have hf := (if_pos c15).symm.trans hf
        refine lv_iload_n hx hb dX9_row_91 rfl (lv_at hl 2 rfl) ?_
        exact hre _ _ _ _ _ _ hf hP hD hS dX9_row_92
      · have hf := (if_neg c15).symm.trans hf
        refine lv_aload_n hx hb dX9_row_72 rfl (lv_at hl 0 rfl) ?_
        refine Mg_4 S hin hK hP f16 dX9_row_73 ?_
        refine lv_bipush (v := 40) hx hb dX9_row_76 (by decide) ?_
        refine lv_iload_n hx hb dX9_row_78 rfl (lv_at hl 1 rfl) ?_
        refine lv_imul hx hb dX9_row_79 ?_
        refine lv_iload hx hb dX9_row_80 (lv_at hl 3 rfl) ?_
        refine lv_iadd hx hb dX9_row_82 ?_
        refine lv_iconst (v := 0) hx hb dX9_row_83 (by decide) ?_
        obtain ⟨g16, hf⟩ := gd_some hf
        refine Ms_4 S hK hP hD hS g16 dX9_row_84 (fun H locs hP hD hS => ?_)
        obtain ⟨σ17, eσ17, hf⟩ := nm_some hf
        rw [← eσ17] at hP hD
        obtain ⟨x18, ex18, hf⟩ := nm_some hf
        refine lv_iinc (v := x18) (lv' := [(4, .int x18), (0, .ref (h 0)), (1, .int l1), (3, .int l3)]) hx hb dX9_row_85 hl (k := 3) rfl (by rw [ex18]; rfl) (by decide) rfl (fun ls hl => ?_)
        refine lv_goto (tgt := 65) hx hb dX9_row_88 (by decide) ?_
        exact ih _ _ _ _ _ _ _ hf (lv_sub hl [1, 2, 3, 0] rfl) hP hD hS
  unfold FM_row at hf
  refine lv_aload_n hx hb dX9_row_0 rfl (lv_at hl 0 rfl) ?_
  refine lv_iconst (v := 0) hx hb dX9_row_1 (by decide) ?_
  refine Mp_0 S hin hK hP hD hS f47 dX9_row_2 (fun H locs hP hD hS => ?_)
  obtain ⟨σ1, eσ1, hf⟩ := nm_some hf
  rw [← eσ1] at hP hD
  refine lv_iload_n hx hb dX9_row_5 rfl (lv_at hl 1 rfl) ?_
  obtain ⟨r2, hr2, hf⟩ := bi_some hf
  refine kc_s (n := 1) S hRf hRl hK hA hP hD hS hl [.int a1] [] (kM_isRow l D _ _ a1 r2 hr2) gX9_row_X9_isRow rfl (by decide +kernel) rfl ⟨by decide, by decide⟩ rfl (Nat.le_of_ble_eq_true rfl) dX9_row_6 (fun H locs hP hD hS => ?_)
  refine W.eq (g2 := F0 m 9 ls [.int r2]) rfl ?_
  refine lv_if_eq (tgt := 30) hx hb dX9_row_9 (by decide) (fun c3 => ?_) (fun c3 => ?_)
  · have hf := (if_pos c3).symm.trans hf
    refine lv_ldc (v := (-1000001)) hx hb hown c67 dX9_row_30 ?_
    exact hre _ _ _ _ _ _ hf hP hD hS dX9_row_32
  · have hf := (if_neg c3).symm.trans hf
    refine lv_iload_n hx hb dX9_row_12 rfl (lv_at hl 2 rfl) ?_
    refine lv_i2l hx hb dX9_row_13 rfl ?_
    refine lv_lconst (v := 0) hx hb dX9_row_14 (by decide) ?_
    refine lv_ldc2 (v := 2) hx hb hown c65 dX9_row_15 ?_
    obtain ⟨r4, hr4, hf⟩ := bi_some hf
    refine kc_s (n := 3) S hRf hRl hK hA hP hD hS hl [.long (Int32.toInt64 a2), .long 0, .long 2] [] (kM_in l D _ _ (Int32.toInt64 a2) 0 2 r4 hr4) gX9_row_X9_in rfl (by decide +kernel) rfl ⟨by decide, by decide⟩ rfl (Nat.le_of_ble_eq_true rfl) dX9_row_18 (fun H locs hP hD hS => ?_)
    refine W.eq (g2 := F0 m 21 ls [.int r4]) rfl ?_
    refine lv_if_eq (tgt := 30) hx hb dX9_row_21 (by decide) (fun c5 => ?_) (fun c5 => ?_)
    · have hf := (if_pos c5).symm.trans hf
      refine lv_ldc (v := (-1000001)) hx hb hown c67 dX9_row_30 ?_
      exact hre _ _ _ _ _ _ hf hP hD hS dX9_row_32
    · have hf := (if_neg c5).symm.trans hf
      refine lv_iload_n hx hb dX9_row_24 rfl (lv_at hl 3 rfl) ?_
      refine lv_bipush (v := 40) hx hb dX9_row_25 (by decide) ?_
      refine lv_icmp_le (tgt := 33) hx hb dX9_row_27 (by decide) (fun c6 => ?_) (fun c6 => ?_)
      · have hf := (if_pos c6).symm.trans hf
        refine lv_aload_n hx hb dX9_row_33 rfl (lv_at hl 0 rfl) ?_
        refine lv_iconst (v := 0) hx hb dX9_row_34 (by decide) ?_
        refine Mp_1 S hin hK hP hD hS f51 dX9_row_35 (fun H locs hP hD hS => ?_)
        obtain ⟨σ7, eσ7, hf⟩ := nm_some hf
        rw [← eσ7] at hP hD
        refine lv_iload_n hx hb dX9_row_38 rfl (lv_at hl 3 rfl) ?_
        refine lv_if_ge (tgt := 48) hx hb dX9_row_39 (by decide) (fun c8 => ?_) (fun c8 => ?_)
        · have hf := (if_pos c8).symm.trans hf
          refine lv_aload_n hx hb dX9_row_48 rfl (lv_at hl 0 rfl) ?_
          refine Mg_2 S hin hK hP f7 dX9_row_49 ?_
          refine lv_iload_n hx hb dX9_row_52 rfl (lv_at hl 1 rfl) ?_
          refine lv_iload_n hx hb dX9_row_53 rfl (lv_at hl 2 rfl) ?_
          obtain ⟨g9, hf⟩ := gd_some hf
          refine Ms_2 S hK hP hD hS g9 dX9_row_54 (fun H locs hP hD hS => ?_)
          obtain ⟨σ10, eσ10, hf⟩ := nm_some hf
          rw [← eσ10] at hP hD
          refine lv_aload_n hx hb dX9_row_55 rfl (lv_at hl 0 rfl) ?_
          refine Mg_3 S hin hK hP f13 dX9_row_56 ?_
          refine lv_iload_n hx hb dX9_row_59 rfl (lv_at hl 1 rfl) ?_
          refine lv_iload_n hx hb dX9_row_60 rfl (lv_at hl 3 rfl) ?_
          obtain ⟨g11, hf⟩ := gd_some hf
          refine Ms_3 S hK hP hD hS g11 dX9_row_61 (fun H locs hP hD hS => ?_)
          obtain ⟨σ12, eσ12, hf⟩ := nm_some hf
          rw [← eσ12] at hP hD
          refine lv_iconst (v := 0) hx hb dX9_row_62 (by decide) ?_
          refine lv_istore (lv' := [(4, .int 0), (0, .ref (h 0)), (1, .int a1), (2, .int a2), (3, .int a3)]) hx hb dX9_row_63 hl (by decide) rfl (fun ls hl => ?_)
          exact b65 fuelN _ _ _ _ _ _ _ hf (lv_sub hl [1, 2, 4, 0] rfl) hP hD hS
        · have hf := (if_neg c8).symm.trans hf
          refine lv_aload_n hx hb dX9_row_42 rfl (lv_at hl 0 rfl) ?_
          refine lv_iconst (v := 4) hx hb dX9_row_43 (by decide) ?_
          obtain ⟨r13, σ14, hr13, hf⟩ := bd2_some hf
          refine kc_v (ci := 8) (q0 := 0) (n := 1) S hRf hRl hK hA hP hD hS hl [.int 4] [] (kM_finding l D h cI cZ σ7 4 r13 σ14 hr13) gX9_row_X9_finding rfl (by decide +kernel) rfl ⟨by decide, by decide⟩ rfl rfl rfl rfl (Nat.le_of_ble_eq_true rfl) dX9_row_44 (fun H locs hP hD hS => ?_)
          refine W.eq (g2 := F0 m 47 ls [.int r13]) rfl ?_
          exact hre _ _ _ _ _ _ hf hP hD hS dX9_row_47
      · have hf := (if_neg c6).symm.trans hf
        refine lv_ldc (v := (-1000001)) hx hb hown c67 dX9_row_30 ?_
        exact hre _ _ _ _ _ _ hf hP hD hS dX9_row_32
def FM_set_99 (σ : MS) (l1 : Int32) (l2 : Int32) (s0 : Int32) (s1 : Int32) : Option (Int32 × MS) :=
  gd (¬ ((s1 : Int32) < 0 ∨ 320 ≤ Int32.toNatClampNeg s1)) (nm (setA σ 4 (Int32.toNatClampNeg s1) s0) fun (σ19 : MS) => gd (¬ ((((40 * l1) + l2) : Int32) < 0 ∨ 320 ≤ Int32.toNatClampNeg ((40 * l1) + l2))) (some ((σ19.2 4 (Int32.toNatClampNeg ((40 * l1) + l2))), σ19)))
def FM_set (σ : MS) (a1 : Int32) (a2 : Int32) (a3 : Int32) : Option (Int32 × MS) :=
  nm (setF σ 0 0) fun (σ1 : MS) => Option.bind (FM_isRow a1) fun (r2 : Int32) => if r2 = 0 then (some ((-1000001), σ1)) else (nm (setF σ1 1 0) fun (σ4 : MS) => gd (¬ ((a1 : Int32) < 0 ∨ 8 ≤ Int32.toNatClampNeg a1)) (if 0 ≤ (σ4.2 2 (Int32.toNatClampNeg a1)) then (gd (¬ ((a1 : Int32) < 0 ∨ 8 ≤ Int32.toNatClampNeg a1)) (Option.bind (FM_in (Int32.toInt64 a2) 0 (Int32.toInt64 ((σ4.2 3 (Int32.toNatClampNeg a1)) - 1))) fun (r8 : Int32) => if r8 = 0 then (bd2 (FM_finding σ4 2) fun (r14 : Int32) (σ15 : MS) => some (r14, σ15)) else (gd (¬ ((a1 : Int32) < 0 ∨ 8 ≤ Int32.toNatClampNeg a1)) (if (σ4.2 2 (Int32.toNatClampNeg a1)) = 0 then (FM_set_99 σ4 a1 a2 ((Int32.toInt8 a3).toInt32) ((40 * a1) + a2)) else (gd (¬ ((a1 : Int32) < 0 ∨ 8 ≤ Int32.toNatClampNeg a1)) (if (σ4.2 2 (Int32.toNatClampNeg a1)) = 1 then (FM_set_99 σ4 a1 a2 ((Int32.toInt16 a3).toInt32) ((40 * a1) + a2)) else (FM_set_99 σ4 a1 a2 a3 ((40 * a1) + a2)))))))) else (bd2 (FM_finding σ4 1) fun (r16 : Int32) (σ17 : MS) => some (r16, σ17))))
set_option maxHeartbeats 4000000 in
set_option maxRecDepth 100000 in
theorem kM_set (l : Launch) (D : va_G) (h : Nat → Nat) (cI cZ : ClassId) (σ : MS) (a1 : Int32) (a2 : Int32) (a3 : Int32) (r : Int32) (σ' : MS) (hf : FM_set σ a1 a2 a3 = some (r, σ')) : KK l D [(cI, .int), (cZ, .boolean)] yX9_set wsX9_set 2 45 [.ref (h 0), .int a1, .int a2, .int a3] (mw h cI cZ σ) (some (.int r)) (mw h cI cZ σ') := by
  refine KK.ofI (own := RX9) (cc := cX9_set) (maxL := 4) (by decide) rfl rfl (Nat.le_of_ble_eq_true rfl) ?_
  intro p e s m args below meth c R Q A ls S hRf hRl hK hA hP hD hS hl hret
  obtain ⟨hx, hb, hml, hown, hts⟩ := id S
  have hin : ∀ w ∈ wsX90, w ∈ wsX9_set := fun w hw => List.mem_cons_of_mem _ (List.mem_append_right _ hw)
  have f47 := hts (.fieldLink RX9 47 "PenniesAwayModel" "thrown" "I") (by decide +kernel)
  have f51 := hts (.fieldLink RX9 51 "PenniesAwayModel" "status" "I") (by decide +kernel)
  have f7 := hts (.fieldLink RX9 7 "PenniesAwayModel" "lane" "[I") (by decide +kernel)
  have f13 := hts (.fieldLink RX9 13 "PenniesAwayModel" "many" "[I") (by decide +kernel)
  have f16 := hts (.fieldLink RX9 16 "PenniesAwayModel" "item" "[I") (by decide +kernel)
  have c67 := hts (.constant RX9 67 (-1000001)) (by decide +kernel)
  have hl : lv_has ls 4 [(0, .ref (h 0)), (1, .int a1), (2, .int a2), (3, .int a3)] := hl
  have hre : ∀ (x : Int32) (σx : MS) (pc : Nat) (ls : Array Slot) (H : Heap) (locs : List Loc), (some (x, σx) : Option (Int32 × MS)) = some (r, σ') → va_P D vwCl (mw h cI cZ σx) H → va_D A (mw h cI cZ σx) → va_S A s.heap H locs → decode cX9_set pc = .ok (.ireturn, 1) → W p l e R s m args below meth c H locs 0 0 Q (F0 m pc ls [.int x]) := by intro x σx pc ls H locs he; cases he; exact hret pc ls H locs
  have b99 : ∀ (σ : MS) (l1 : Int32) (l2 : Int32) (s0 : Int32) (s1 : Int32) (ls : Array Slot) (H : Heap) (locs : List Loc), FM_set_99 σ l1 l2 s0 s1 = some (r, σ') → lv_has ls 4 [(0, .ref (h 0)), (1, .int l1), (2, .int l2)] → va_P D vwCl (mw h cI cZ σ) H → va_D A (mw h cI cZ σ) → va_S A s.heap H locs → W p l e R s m args below meth c H locs 0 0 Q (F0 m 99 ls [.int s0, .int s1, .ref (h 4)]) := by
    intro σ l1 l2 s0 s1 ls H locs hf hl hP hD hS
    unfold FM_set_99 at hf
    obtain ⟨g18, hf⟩ := gd_some hf
    refine Ms_4 S hK hP hD hS g18 dX9_set_99 (fun H locs hP hD hS => ?_)
    obtain ⟨σ19, eσ19, hf⟩ := nm_some hf
    rw [← eσ19] at hP hD
    refine lv_aload_n hx hb dX9_set_100 rfl (lv_at hl 0 rfl) ?_
    refine Mg_4 S hin hK hP f16 dX9_set_101 ?_
    refine lv_bipush (v := 40) hx hb dX9_set_104 (by decide) ?_
    refine lv_iload_n hx hb dX9_set_106 rfl (lv_at hl 1 rfl) ?_
    refine lv_imul hx hb dX9_set_107 ?_
    refine lv_iload_n hx hb dX9_set_108 rfl (lv_at hl 2 rfl) ?_
    refine lv_iadd hx hb dX9_set_109 ?_
    obtain ⟨g20, hf⟩ := gd_some hf
    refine Ml_4 S hK hP g20 dX9_set_110 ?_
    exact hre _ _ _ _ _ _ hf hP hD hS dX9_set_111
  unfold FM_set at hf
  refine lv_aload_n hx hb dX9_set_0 rfl (lv_at hl 0 rfl) ?_
  refine lv_iconst (v := 0) hx hb dX9_set_1 (by decide) ?_
  refine Mp_0 S hin hK hP hD hS f47 dX9_set_2 (fun H locs hP hD hS => ?_)
  obtain ⟨σ1, eσ1, hf⟩ := nm_some hf
  rw [← eσ1] at hP hD
  refine lv_iload_n hx hb dX9_set_5 rfl (lv_at hl 1 rfl) ?_
  obtain ⟨r2, hr2, hf⟩ := bi_some hf
  refine kc_s (n := 1) S hRf hRl hK hA hP hD hS hl [.int a1] [] (kM_isRow l D _ _ a1 r2 hr2) gX9_set_X9_isRow rfl (by decide +kernel) rfl ⟨by decide, by decide⟩ rfl (Nat.le_of_ble_eq_true rfl) dX9_set_6 (fun H locs hP hD hS => ?_)
  refine W.eq (g2 := F0 m 9 ls [.int r2]) rfl ?_
  refine lv_if_ne (tgt := 15) hx hb dX9_set_9 (by decide) (fun c3 => ?_) (fun c3 => ?_)
  · have hf := (if_neg c3).symm.trans hf
    refine lv_aload_n hx hb dX9_set_15 rfl (lv_at hl 0 rfl) ?_
    refine lv_iconst (v := 0) hx hb dX9_set_16 (by decide) ?_
    refine Mp_1 S hin hK hP hD hS f51 dX9_set_17 (fun H locs hP hD hS => ?_)
    obtain ⟨σ4, eσ4, hf⟩ := nm_some hf
    rw [← eσ4] at hP hD
    refine lv_aload_n hx hb dX9_set_20 rfl (lv_at hl 0 rfl) ?_
    refine Mg_2 S hin hK hP f7 dX9_set_21 ?_
    refine lv_iload_n hx hb dX9_set_24 rfl (lv_at hl 1 rfl) ?_
    obtain ⟨g5, hf⟩ := gd_some hf
    refine Ml_2 S hK hP g5 dX9_set_25 ?_
    refine lv_if_ge (tgt := 35) hx hb dX9_set_26 (by decide) (fun c6 => ?_) (fun c6 => ?_)
    · have hf := (if_pos c6).symm.trans hf
      refine lv_iload_n hx hb dX9_set_35 rfl (lv_at hl 2 rfl) ?_
      refine lv_i2l hx hb dX9_set_36 rfl ?_
      refine lv_lconst (v := 0) hx hb dX9_set_37 (by decide) ?_
      refine lv_aload_n hx hb dX9_set_38 rfl (lv_at hl 0 rfl) ?_
      refine Mg_3 S hin hK hP f13 dX9_set_39 ?_
      refine lv_iload_n hx hb dX9_set_42 rfl (lv_at hl 1 rfl) ?_
      obtain ⟨g7, hf⟩ := gd_some hf
      refine Ml_3 S hK hP g7 dX9_set_43 ?_
      refine lv_iconst (v := 1) hx hb dX9_set_44 (by decide) ?_
      refine lv_isub hx hb dX9_set_45 ?_
      refine lv_i2l hx hb dX9_set_46 rfl ?_
      obtain ⟨r8, hr8, hf⟩ := bi_some hf
      refine kc_s (n := 3) S hRf hRl hK hA hP hD hS hl [.long (Int32.toInt64 a2), .long 0, .long (Int32.toInt64 ((σ4.2 3 (Int32.toNatClampNeg a1)) - 1))] [] (kM_in l D _ _ (Int32.toInt64 a2) 0 (Int32.toInt64 ((σ4.2 3 (Int32.toNatClampNeg a1)) - 1)) r8 hr8) gX9_set_X9_in rfl (by decide +kernel) rfl ⟨by decide, by decide⟩ rfl (Nat.le_of_ble_eq_true rfl) dX9_set_47 (fun H locs hP hD hS => ?_)
      refine W.eq (g2 := F0 m 50 ls [.int r8]) rfl ?_
      refine lv_if_ne (tgt := 59) hx hb dX9_set_50 (by decide) (fun c9 => ?_) (fun c9 => ?_)
      · have hf := (if_neg c9).symm.trans hf
        refine lv_aload_n hx hb dX9_set_59 rfl (lv_at hl 0 rfl) ?_
        refine Mg_4 S hin hK hP f16 dX9_set_60 ?_
        refine lv_bipush (v := 40) hx hb dX9_set_63 (by decide) ?_
        refine lv_iload_n hx hb dX9_set_65 rfl (lv_at hl 1 rfl) ?_
        refine lv_imul hx hb dX9_set_66 ?_
        refine lv_iload_n hx hb dX9_set_67 rfl (lv_at hl 2 rfl) ?_
        refine lv_iadd hx hb dX9_set_68 ?_
        refine lv_aload_n hx hb dX9_set_69 rfl (lv_at hl 0 rfl) ?_
        refine Mg_2 S hin hK hP f7 dX9_set_70 ?_
        refine lv_iload_n hx hb dX9_set_73 rfl (lv_at hl 1 rfl) ?_
        obtain ⟨g10, hf⟩ := gd_some hf
        refine Ml_2 S hK hP g10 dX9_set_74 ?_
        refine lv_if_ne (tgt := 83) hx hb dX9_set_75 (by decide) (fun c11 => ?_) (fun c11 => ?_)
        · have hf := (if_neg c11).symm.trans hf
          refine lv_aload_n hx hb dX9_set_83 rfl (lv_at hl 0 rfl) ?_
          refine Mg_2 S hin hK hP f7 dX9_set_84 ?_
          refine lv_iload_n hx hb dX9_set_87 rfl (lv_at hl 1 rfl) ?_
          obtain ⟨g12, hf⟩ := gd_some hf
          refine Ml_2 S hK hP g12 dX9_set_88 ?_
          refine lv_iconst (v := 1) hx hb dX9_set_89 (by decide) ?_
          refine lv_icmp_ne (tgt := 98) hx hb dX9_set_90 (by decide) (fun c13 => ?_) (fun c13 => ?_)
          · have hf := (if_neg c13).symm.trans hf
            refine lv_iload_n hx hb dX9_set_98 rfl (lv_at hl 3 rfl) ?_
            exact b99 _ _ _ _ _ _ _ _ hf (lv_sub hl [0, 1, 2] rfl) hP hD hS
          · have hf := (if_pos c13).symm.trans hf
            refine lv_iload_n hx hb dX9_set_93 rfl (lv_at hl 3 rfl) ?_
            refine lv_i2s hx hb dX9_set_94 rfl ?_
            refine lv_goto (tgt := 99) hx hb dX9_set_95 (by decide) ?_
            exact b99 _ _ _ _ _ _ _ _ hf (lv_sub hl [0, 1, 2] rfl) hP hD hS
        · have hf := (if_pos c11).symm.trans hf
          refine lv_iload_n hx hb dX9_set_78 rfl (lv_at hl 3 rfl) ?_
          refine lv_i2b hx hb dX9_set_79 rfl ?_
          refine lv_goto (tgt := 99) hx hb dX9_set_80 (by decide) ?_
          exact b99 _ _ _ _ _ _ _ _ hf (lv_sub hl [0, 1, 2] rfl) hP hD hS
      · have hf := (if_pos c9).symm.trans hf
        refine lv_aload_n hx hb dX9_set_53 rfl (lv_at hl 0 rfl) ?_
        refine lv_iconst (v := 2) hx hb dX9_set_54 (by decide) ?_
        obtain ⟨r14, σ15, hr14, hf⟩ := bd2_some hf
        refine kc_v (ci := 8) (q0 := 0) (n := 1) S hRf hRl hK hA hP hD hS hl [.int 2] [] (kM_finding l D h cI cZ σ4 2 r14 σ15 hr14) gX9_set_X9_finding rfl (by decide +kernel) rfl ⟨by decide, by decide⟩ rfl rfl rfl rfl (Nat.le_of_ble_eq_true rfl) dX9_set_55 (fun H locs hP hD hS => ?_)
        refine W.eq (g2 := F0 m 58 ls [.int r14]) rfl ?_
        exact hre _ _ _ _ _ _ hf hP hD hS dX9_set_58
    · have hf := (if_neg c6).symm.trans hf
      refine lv_aload_n hx hb dX9_set_29 rfl (lv_at hl 0 rfl) ?_
      refine lv_iconst (v := 1) hx hb dX9_set_30 (by decide) ?_
      obtain ⟨r16, σ17, hr16, hf⟩ := bd2_some hf
      refine kc_v (ci := 8) (q0 := 0) (n := 1) S hRf hRl hK hA hP hD hS hl [.int 1] [] (kM_finding l D h cI cZ σ4 1 r16 σ17 hr16) gX9_set_X9_finding rfl (by decide +kernel) rfl ⟨by decide, by decide⟩ rfl rfl rfl rfl (Nat.le_of_ble_eq_true rfl) dX9_set_31 (fun H locs hP hD hS => ?_)
      refine W.eq (g2 := F0 m 34 ls [.int r16]) rfl ?_
      exact hre _ _ _ _ _ _ hf hP hD hS dX9_set_34
  · have hf := (if_pos c3).symm.trans hf
    refine lv_ldc (v := (-1000001)) hx hb hown c67 dX9_set_12 ?_
    exact hre _ _ _ _ _ _ hf hP hD hS dX9_set_14
def FM_copy_45 (σ : MS) : Option (Int32 × MS) :=
  bd2 (FM_finding σ 1) fun (r32 : Int32) (σ33 : MS) => some (r32, σ33)
def FM_copy_121 (σ : MS) : Option (Int32 × MS) :=
  bd2 (FM_finding σ 2) fun (r30 : Int32) (σ31 : MS) => some (r30, σ31)
def FM_copy_167 (ag143 : MS → Int32 → Int32 → Int32 → Int32 → Int32 → Int32 → Int32 → Option (Int32 × MS)) (σ : MS) (l1 : Int32) (l2 : Int32) (l3 : Int32) (l4 : Int32) (l5 : Int32) (l6 : Int32) (l7 : Int32) (s0 : Int32) : Option (Int32 × MS) :=
  gd (¬ (((((40 * l1) + l2) + s0) : Int32) < 0 ∨ 320 ≤ Int32.toNatClampNeg (((40 * l1) + l2) + s0))) (gd (¬ (((((40 * l3) + l4) + s0) : Int32) < 0 ∨ 320 ≤ Int32.toNatClampNeg (((40 * l3) + l4) + s0))) (nm (setA σ 4 (Int32.toNatClampNeg (((40 * l3) + l4) + s0)) (σ.2 4 (Int32.toNatClampNeg (((40 * l1) + l2) + s0)))) fun (σ28 : MS) => nm (l7 + 1) fun (x29 : Int32) => ag143 σ28 l1 l2 l3 l4 l5 l6 x29))
def FM_copy_143  : Nat → MS → Int32 → Int32 → Int32 → Int32 → Int32 → Int32 → Int32 → Option (Int32 × MS)
  | 0, _, _, _, _, _, _, _, _ => none
  | n + 1, σ, l1, l2, l3, l4, l5, l6, l7 => if l5 ≤ l7 then (some (l5, σ)) else (if l6 = 0 then (FM_copy_167 (FM_copy_143 n) σ l1 l2 l3 l4 l5 l6 l7 ((l5 - 1) - l7)) else (FM_copy_167 (FM_copy_143 n) σ l1 l2 l3 l4 l5 l6 l7 l7))
def FM_copy_138 (σ : MS) (l1 : Int32) (l2 : Int32) (l3 : Int32) (l4 : Int32) (l5 : Int32) (s0 : Int32) : Option (Int32 × MS) :=
  FM_copy_143 fuelN σ l1 l2 l3 l4 l5 s0 0
def FM_copy (σ : MS) (a1 : Int32) (a2 : Int32) (a3 : Int32) (a4 : Int32) (a5 : Int32) : Option (Int32 × MS) :=
  nm (setF σ 0 0) fun (σ1 : MS) => Option.bind (FM_isRow a1) fun (r2 : Int32) => if r2 = 0 then (some ((-1000001), σ1)) else (Option.bind (FM_isRow a3) fun (r4 : Int32) => if r4 = 0 then (some ((-1000001), σ1)) else (nm (setF σ1 1 0) fun (σ6 : MS) => gd (¬ ((a1 : Int32) < 0 ∨ 8 ≤ Int32.toNatClampNeg a1)) (if (σ6.2 2 (Int32.toNatClampNeg a1)) < 0 then (FM_copy_45 σ6) else (gd (¬ ((a3 : Int32) < 0 ∨ 8 ≤ Int32.toNatClampNeg a3)) (if 0 ≤ (σ6.2 2 (Int32.toNatClampNeg a3)) then (gd (¬ ((a1 : Int32) < 0 ∨ 8 ≤ Int32.toNatClampNeg a1)) (gd (¬ ((a3 : Int32) < 0 ∨ 8 ≤ Int32.toNatClampNeg a3)) (if (σ6.2 2 (Int32.toNatClampNeg a1)) = (σ6.2 2 (Int32.toNatClampNeg a3)) then (if a2 < 0 then (FM_copy_121 σ6) else (if a4 < 0 then (FM_copy_121 σ6) else (if a5 < 0 then (FM_copy_121 σ6) else (gd (¬ ((a1 : Int32) < 0 ∨ 8 ≤ Int32.toNatClampNeg a1)) (if 0 < (lg_cmp ((Int32.toInt64 a2) + (Int32.toInt64 a5)) (Int32.toInt64 (σ6.2 3 (Int32.toNatClampNeg a1)))) then (FM_copy_121 σ6) else (gd (¬ ((a3 : Int32) < 0 ∨ 8 ≤ Int32.toNatClampNeg a3)) (if (lg_cmp ((Int32.toInt64 a4) + (Int32.toInt64 a5)) (Int32.toInt64 (σ6.2 3 (Int32.toNatClampNeg a3)))) ≤ 0 then (if a2 < a4 then (FM_copy_138 σ6 a1 a2 a3 a4 a5 0) else (FM_copy_138 σ6 a1 a2 a3 a4 a5 1)) else (FM_copy_121 σ6)))))))) else (bd2 (FM_finding σ6 5) fun (r22 : Int32) (σ23 : MS) => some (r22, σ23))))) else (FM_copy_45 σ6))))))
set_option maxHeartbeats 4000000 in
set_option maxRecDepth 100000 in
theorem kM_copy (l : Launch) (D : va_G) (h : Nat → Nat) (cI cZ : ClassId) (σ : MS) (a1 : Int32) (a2 : Int32) (a3 : Int32) (a4 : Int32) (a5 : Int32) (r : Int32) (σ' : MS) (hf : FM_copy σ a1 a2 a3 a4 a5 = some (r, σ')) : KK l D [(cI, .int), (cZ, .boolean)] yX9_copy wsX9_copy 2 45 [.ref (h 0), .int a1, .int a2, .int a3, .int a4, .int a5] (mw h cI cZ σ) (some (.int r)) (mw h cI cZ σ') := by
  refine KK.ofI (own := RX9) (cc := cX9_copy) (maxL := 9) (by decide) rfl rfl (Nat.le_of_ble_eq_true rfl) ?_
  intro p e s m args below meth c R Q A ls S hRf hRl hK hA hP hD hS hl hret
  obtain ⟨hx, hb, hml, hown, hts⟩ := id S
  have hin : ∀ w ∈ wsX90, w ∈ wsX9_copy := fun w hw => List.mem_cons_of_mem _ (List.mem_append_right _ hw)
  have f47 := hts (.fieldLink RX9 47 "PenniesAwayModel" "thrown" "I") (by decide +kernel)
  have c67 := hts (.constant RX9 67 (-1000001)) (by decide +kernel)
  have f51 := hts (.fieldLink RX9 51 "PenniesAwayModel" "status" "I") (by decide +kernel)
  have f7 := hts (.fieldLink RX9 7 "PenniesAwayModel" "lane" "[I") (by decide +kernel)
  have f13 := hts (.fieldLink RX9 13 "PenniesAwayModel" "many" "[I") (by decide +kernel)
  have f16 := hts (.fieldLink RX9 16 "PenniesAwayModel" "item" "[I") (by decide +kernel)
  have hl : lv_has ls 9 [(0, .ref (h 0)), (1, .int a1), (2, .int a2), (3, .int a3), (4, .int a4), (5, .int a5)] := hl
  have hre : ∀ (x : Int32) (σx : MS) (pc : Nat) (ls : Array Slot) (H : Heap) (locs : List Loc), (some (x, σx) : Option (Int32 × MS)) = some (r, σ') → va_P D vwCl (mw h cI cZ σx) H → va_D A (mw h cI cZ σx) → va_S A s.heap H locs → decode cX9_copy pc = .ok (.ireturn, 1) → W p l e R s m args below meth c H locs 0 0 Q (F0 m pc ls [.int x]) := by intro x σx pc ls H locs he; cases he; exact hret pc ls H locs
  have b45 : ∀ (σ : MS) (ls : Array Slot) (H : Heap) (locs : List Loc), FM_copy_45 σ = some (r, σ') → lv_has ls 9 [(0, .ref (h 0))] → va_P D vwCl (mw h cI cZ σ) H → va_D A (mw h cI cZ σ) → va_S A s.heap H locs → W p l e R s m args below meth c H locs 0 0 Q (F0 m 45 ls []) := by
    intro σ ls H locs hf hl hP hD hS
    unfold FM_copy_45 at hf
    refine lv_aload_n hx hb dX9_copy_45 rfl (lv_at hl 0 rfl) ?_
    refine lv_iconst (v := 1) hx hb dX9_copy_46 (by decide) ?_
    obtain ⟨r32, σ33, hr32, hf⟩ := bd2_some hf
    refine kc_v (ci := 8) (q0 := 0) (n := 1) S hRf hRl hK hA hP hD hS hl [.int 1] [] (kM_finding l D h cI cZ σ 1 r32 σ33 hr32) gX9_copy_X9_finding rfl (by decide +kernel) rfl ⟨by decide, by decide⟩ rfl rfl rfl rfl (Nat.le_of_ble_eq_true rfl) dX9_copy_47 (fun H locs hP hD hS => ?_)
    refine W.eq (g2 := F0 m 50 ls [.int r32]) rfl ?_
    exact hre _ _ _ _ _ _ hf hP hD hS dX9_copy_50
  have b121 : ∀ (σ : MS) (ls : Array Slot) (H : Heap) (locs : List Loc), FM_copy_121 σ = some (r, σ') → lv_has ls 9 [(0, .ref (h 0))] → va_P D vwCl (mw h cI cZ σ) H → va_D A (mw h cI cZ σ) → va_S A s.heap H locs → W p l e R s m args below meth c H locs 0 0 Q (F0 m 121 ls []) := by
    intro σ ls H locs hf hl hP hD hS
    unfold FM_copy_121 at hf
    refine lv_aload_n hx hb dX9_copy_121 rfl (lv_at hl 0 rfl) ?_
    refine lv_iconst (v := 2) hx hb dX9_copy_122 (by decide) ?_
    obtain ⟨r30, σ31, hr30, hf⟩ := bd2_some hf
    refine kc_v (ci := 8) (q0 := 0) (n := 1) S hRf hRl hK hA hP hD hS hl [.int 2] [] (kM_finding l D h cI cZ σ 2 r30 σ31 hr30) gX9_copy_X9_finding rfl (by decide +kernel) rfl ⟨by decide, by decide⟩ rfl rfl rfl rfl (Nat.le_of_ble_eq_true rfl) dX9_copy_123 (fun H locs hP hD hS => ?_)
    refine W.eq (g2 := F0 m 126 ls [.int r30]) rfl ?_
    exact hre _ _ _ _ _ _ hf hP hD hS dX9_copy_126
  have b167 : ∀ (ag143 : MS → Int32 → Int32 → Int32 → Int32 → Int32 → Int32 → Int32 → Option (Int32 × MS)) (hag143 : ∀ (σ : MS) (l1 : Int32) (l2 : Int32) (l3 : Int32) (l4 : Int32) (l5 : Int32) (l6 : Int32) (l7 : Int32) (ls : Array Slot) (H : Heap) (locs : List Loc), ag143 σ l1 l2 l3 l4 l5 l6 l7 = some (r, σ') → lv_has ls 9 [(0, .ref (h 0)), (1, .int l1), (2, .int l2), (3, .int l3), (4, .int l4), (5, .int l5), (6, .int l6), (7, .int l7)] → va_P D vwCl (mw h cI cZ σ) H → va_D A (mw h cI cZ σ) → va_S A s.heap H locs → W p l e R s m args below meth c H locs 0 0 Q (F0 m 143 ls [])), ∀ (σ : MS) (l1 : Int32) (l2 : Int32) (l3 : Int32) (l4 : Int32) (l5 : Int32) (l6 : Int32) (l7 : Int32) (s0 : Int32) (ls : Array Slot) (H : Heap) (locs : List Loc), FM_copy_167 ag143 σ l1 l2 l3 l4 l5 l6 l7 s0 = some (r, σ') → lv_has ls 9 [(0, .ref (h 0)), (1, .int l1), (2, .int l2), (3, .int l3), (4, .int l4), (5, .int l5), (6, .int l6), (7, .int l7)] → va_P D vwCl (mw h cI cZ σ) H → va_D A (mw h cI cZ σ) → va_S A s.heap H locs → W p l e R s m args below meth c H locs 0 0 Q (F0 m 167 ls [.int s0]) := by
    intro ag143 hag143 σ l1 l2 l3 l4 l5 l6 l7 s0 ls H locs hf hl hP hD hS
    unfold FM_copy_167 at hf
    refine lv_istore (lv' := [(8, .int s0), (0, .ref (h 0)), (1, .int l1), (2, .int l2), (3, .int l3), (4, .int l4), (5, .int l5), (6, .int l6), (7, .int l7)]) hx hb dX9_copy_167 hl (by decide) rfl (fun ls hl => ?_)
    refine lv_aload_n hx hb dX9_copy_169 rfl (lv_at hl 1 rfl) ?_
    refine Mg_4 S hin hK hP f16 dX9_copy_170 ?_
    refine lv_bipush (v := 40) hx hb dX9_copy_173 (by decide) ?_
    refine lv_iload_n hx hb dX9_copy_175 rfl (lv_at hl 4 rfl) ?_
    refine lv_imul hx hb dX9_copy_176 ?_
    refine lv_iload hx hb dX9_copy_177 (lv_at hl 5 rfl) ?_
    refine lv_iadd hx hb dX9_copy_179 ?_
    refine lv_iload hx hb dX9_copy_180 (lv_at hl 0 rfl) ?_
    refine lv_iadd hx hb dX9_copy_182 ?_
    refine lv_aload_n hx hb dX9_copy_183 rfl (lv_at hl 1 rfl) ?_
    refine Mg_4 S hin hK hP f16 dX9_copy_184 ?_
    refine lv_bipush (v := 40) hx hb dX9_copy_187 (by decide) ?_
    refine lv_iload_n hx hb dX9_copy_189 rfl (lv_at hl 2 rfl) ?_
    refine lv_imul hx hb dX9_copy_190 ?_
    refine lv_iload_n hx hb dX9_copy_191 rfl (lv_at hl 3 rfl) ?_
    refine lv_iadd hx hb dX9_copy_192 ?_
    refine lv_iload hx hb dX9_copy_193 (lv_at hl 0 rfl) ?_
    refine lv_iadd hx hb dX9_copy_195 ?_
    obtain ⟨g26, hf⟩ := gd_some hf
    refine Ml_4 S hK hP g26 dX9_copy_196 ?_
    obtain ⟨g27, hf⟩ := gd_some hf
    refine Ms_4 S hK hP hD hS g27 dX9_copy_197 (fun H locs hP hD hS => ?_)
    obtain ⟨σ28, eσ28, hf⟩ := nm_some hf
    rw [← eσ28] at hP hD
    obtain ⟨x29, ex29, hf⟩ := nm_some hf
    refine lv_iinc (v := x29) (lv' := [(7, .int x29), (8, .int s0), (0, .ref (h 0)), (1, .int l1), (2, .int l2), (3, .int l3), (4, .int l4), (5, .int l5), (6, .int l6)]) hx hb dX9_copy_198 hl (k := 8) rfl (by rw [ex29]; rfl) (by decide) rfl (fun ls hl => ?_)
    refine lv_goto (tgt := 143) hx hb dX9_copy_201 (by decide) ?_
    exact hag143 _ _ _ _ _ _ _ _ _ _ _ hf (lv_sub hl [2, 3, 4, 5, 6, 7, 8, 0] rfl) hP hD hS
  have b143 : ∀ (n : Nat), ∀ (σ : MS) (l1 : Int32) (l2 : Int32) (l3 : Int32) (l4 : Int32) (l5 : Int32) (l6 : Int32) (l7 : Int32) (ls : Array Slot) (H : Heap) (locs : List Loc), FM_copy_143 n σ l1 l2 l3 l4 l5 l6 l7 = some (r, σ') → lv_has ls 9 [(0, .ref (h 0)), (1, .int l1), (2, .int l2), (3, .int l3), (4, .int l4), (5, .int l5), (6, .int l6), (7, .int l7)] → va_P D vwCl (mw h cI cZ σ) H → va_D A (mw h cI cZ σ) → va_S A s.heap H locs → W p l e R s m args below meth c H locs 0 0 Q (F0 m 143 ls []) := by
    intro n
    induction n with
    | zero => intro σ l1 l2 l3 l4 l5 l6 l7 ls H locs hf; exact absurd hf (by simp [FM_copy_143])
    | succ n ih =>
      intro σ l1 l2 l3 l4 l5 l6 l7 ls H locs hf hl hP hD hS
      rw [FM_copy_143] at hf
      refine lv_iload hx hb dX9_copy_143 (lv_at hl 7 rfl) ?_
      refine lv_iload hx hb dX9_copy_145 (lv_at hl 5 rfl) ?_
      refine lv_icmp_ge (tgt := 204) hx hb dX9_copy_147 (by decide) (fun c24 => ?_) (fun c24 => ?_)
      · have hf := (if_pos c24).symm.trans hf
        refine lv_iload hx hb dX9_copy_204 (lv_at hl 5 rfl) ?_
        exact hre _ _ _ _ _ _ hf hP hD hS dX9_copy_206
      · have hf := (if_neg c24).symm.trans hf
        refine lv_iload hx hb dX9_copy_150 (lv_at hl 6 rfl) ?_
        refine lv_if_eq (tgt := 160) hx hb dX9_copy_152 (by decide) (fun c25 => ?_) (fun c25 => ?_)
        · have hf := (if_pos c25).symm.trans hf
          refine lv_iload hx hb dX9_copy_160 (lv_at hl 5 rfl) ?_
          refine lv_iconst (v := 1) hx hb dX9_copy_162 (by decide) ?_
          refine lv_isub hx hb dX9_copy_163 ?_
          refine lv_iload hx hb dX9_copy_164 (lv_at hl 7 rfl) ?_
          refine lv_isub hx hb dX9_copy_166 ?_
          exact b167 (FM_copy_143 n) ih _ _ _ _ _ _ _ _ _ _ _ _ hf (lv_sub hl [0, 1, 2, 3, 4, 5, 6, 7] rfl) hP hD hS
        · have hf := (if_neg c25).symm.trans hf
          refine lv_iload hx hb dX9_copy_155 (lv_at hl 7 rfl) ?_
          refine lv_goto (tgt := 167) hx hb dX9_copy_157 (by decide) ?_
          exact b167 (FM_copy_143 n) ih _ _ _ _ _ _ _ _ _ _ _ _ hf (lv_sub hl [0, 1, 2, 3, 4, 5, 6, 7] rfl) hP hD hS
  have b138 : ∀ (σ : MS) (l1 : Int32) (l2 : Int32) (l3 : Int32) (l4 : Int32) (l5 : Int32) (s0 : Int32) (ls : Array Slot) (H : Heap) (locs : List Loc), FM_copy_138 σ l1 l2 l3 l4 l5 s0 = some (r, σ') → lv_has ls 9 [(0, .ref (h 0)), (1, .int l1), (2, .int l2), (3, .int l3), (4, .int l4), (5, .int l5)] → va_P D vwCl (mw h cI cZ σ) H → va_D A (mw h cI cZ σ) → va_S A s.heap H locs → W p l e R s m args below meth c H locs 0 0 Q (F0 m 138 ls [.int s0]) := by
    intro σ l1 l2 l3 l4 l5 s0 ls H locs hf hl hP hD hS
    unfold FM_copy_138 at hf
    refine lv_istore (lv' := [(6, .int s0), (0, .ref (h 0)), (1, .int l1), (2, .int l2), (3, .int l3), (4, .int l4), (5, .int l5)]) hx hb dX9_copy_138 hl (by decide) rfl (fun ls hl => ?_)
    refine lv_iconst (v := 0) hx hb dX9_copy_140 (by decide) ?_
    refine lv_istore (lv' := [(7, .int 0), (6, .int s0), (0, .ref (h 0)), (1, .int l1), (2, .int l2), (3, .int l3), (4, .int l4), (5, .int l5)]) hx hb dX9_copy_141 hl (by decide) rfl (fun ls hl => ?_)
    exact b143 fuelN _ _ _ _ _ _ _ _ _ _ _ hf (lv_sub hl [2, 3, 4, 5, 6, 7, 1, 0] rfl) hP hD hS
  unfold FM_copy at hf
  refine lv_aload_n hx hb dX9_copy_0 rfl (lv_at hl 0 rfl) ?_
  refine lv_iconst (v := 0) hx hb dX9_copy_1 (by decide) ?_
  refine Mp_0 S hin hK hP hD hS f47 dX9_copy_2 (fun H locs hP hD hS => ?_)
  obtain ⟨σ1, eσ1, hf⟩ := nm_some hf
  rw [← eσ1] at hP hD
  refine lv_iload_n hx hb dX9_copy_5 rfl (lv_at hl 1 rfl) ?_
  obtain ⟨r2, hr2, hf⟩ := bi_some hf
  refine kc_s (n := 1) S hRf hRl hK hA hP hD hS hl [.int a1] [] (kM_isRow l D _ _ a1 r2 hr2) gX9_copy_X9_isRow rfl (by decide +kernel) rfl ⟨by decide, by decide⟩ rfl (Nat.le_of_ble_eq_true rfl) dX9_copy_6 (fun H locs hP hD hS => ?_)
  refine W.eq (g2 := F0 m 9 ls [.int r2]) rfl ?_
  refine lv_if_eq (tgt := 19) hx hb dX9_copy_9 (by decide) (fun c3 => ?_) (fun c3 => ?_)
  · have hf := (if_pos c3).symm.trans hf
    refine lv_ldc (v := (-1000001)) hx hb hown c67 dX9_copy_19 ?_
    exact hre _ _ _ _ _ _ hf hP hD hS dX9_copy_21
  · have hf := (if_neg c3).symm.trans hf
    refine lv_iload_n hx hb dX9_copy_12 rfl (lv_at hl 3 rfl) ?_
    obtain ⟨r4, hr4, hf⟩ := bi_some hf
    refine kc_s (n := 1) S hRf hRl hK hA hP hD hS hl [.int a3] [] (kM_isRow l D _ _ a3 r4 hr4) gX9_copy_X9_isRow rfl (by decide +kernel) rfl ⟨by decide, by decide⟩ rfl (Nat.le_of_ble_eq_true rfl) dX9_copy_13 (fun H locs hP hD hS => ?_)
    refine W.eq (g2 := F0 m 16 ls [.int r4]) rfl ?_
    refine lv_if_ne (tgt := 22) hx hb dX9_copy_16 (by decide) (fun c5 => ?_) (fun c5 => ?_)
    · have hf := (if_neg c5).symm.trans hf
      refine lv_aload_n hx hb dX9_copy_22 rfl (lv_at hl 0 rfl) ?_
      refine lv_iconst (v := 0) hx hb dX9_copy_23 (by decide) ?_
      refine Mp_1 S hin hK hP hD hS f51 dX9_copy_24 (fun H locs hP hD hS => ?_)
      obtain ⟨σ6, eσ6, hf⟩ := nm_some hf
      rw [← eσ6] at hP hD
      refine lv_aload_n hx hb dX9_copy_27 rfl (lv_at hl 0 rfl) ?_
      refine Mg_2 S hin hK hP f7 dX9_copy_28 ?_
      refine lv_iload_n hx hb dX9_copy_31 rfl (lv_at hl 1 rfl) ?_
      obtain ⟨g7, hf⟩ := gd_some hf
      refine Ml_2 S hK hP g7 dX9_copy_32 ?_
      refine lv_if_lt (tgt := 45) hx hb dX9_copy_33 (by decide) (fun c8 => ?_) (fun c8 => ?_)
      · have hf := (if_pos c8).symm.trans hf
        exact b45 _ _ _ _ hf (lv_sub hl [0] rfl) hP hD hS
      · have hf := (if_neg c8).symm.trans hf
        refine lv_aload_n hx hb dX9_copy_36 rfl (lv_at hl 0 rfl) ?_
        refine Mg_2 S hin hK hP f7 dX9_copy_37 ?_
        refine lv_iload_n hx hb dX9_copy_40 rfl (lv_at hl 3 rfl) ?_
        obtain ⟨g9, hf⟩ := gd_some hf
        refine Ml_2 S hK hP g9 dX9_copy_41 ?_
        refine lv_if_ge (tgt := 51) hx hb dX9_copy_42 (by decide) (fun c10 => ?_) (fun c10 => ?_)
        · have hf := (if_pos c10).symm.trans hf
          refine lv_aload_n hx hb dX9_copy_51 rfl (lv_at hl 0 rfl) ?_
          refine Mg_2 S hin hK hP f7 dX9_copy_52 ?_
          refine lv_iload_n hx hb dX9_copy_55 rfl (lv_at hl 1 rfl) ?_
          obtain ⟨g11, hf⟩ := gd_some hf
          refine Ml_2 S hK hP g11 dX9_copy_56 ?_
          refine lv_aload_n hx hb dX9_copy_57 rfl (lv_at hl 0 rfl) ?_
          refine Mg_2 S hin hK hP f7 dX9_copy_58 ?_
          refine lv_iload_n hx hb dX9_copy_61 rfl (lv_at hl 3 rfl) ?_
          obtain ⟨g12, hf⟩ := gd_some hf
          refine Ml_2 S hK hP g12 dX9_copy_62 ?_
          refine lv_icmp_eq (tgt := 72) hx hb dX9_copy_63 (by decide) (fun c13 => ?_) (fun c13 => ?_)
          · have hf := (if_pos c13).symm.trans hf
            refine lv_iload_n hx hb dX9_copy_72 rfl (lv_at hl 2 rfl) ?_
            refine lv_if_lt (tgt := 121) hx hb dX9_copy_73 (by decide) (fun c14 => ?_) (fun c14 => ?_)
            · have hf := (if_pos c14).symm.trans hf
              exact b121 _ _ _ _ hf (lv_sub hl [0] rfl) hP hD hS
            · have hf := (if_neg c14).symm.trans hf
              refine lv_iload hx hb dX9_copy_76 (lv_at hl 4 rfl) ?_
              refine lv_if_lt (tgt := 121) hx hb dX9_copy_78 (by decide) (fun c15 => ?_) (fun c15 => ?_)
              · have hf := (if_pos c15).symm.trans hf
                exact b121 _ _ _ _ hf (lv_sub hl [0] rfl) hP hD hS
              · have hf := (if_neg c15).symm.trans hf
                refine lv_iload hx hb dX9_copy_81 (lv_at hl 5 rfl) ?_
                refine lv_if_lt (tgt := 121) hx hb dX9_copy_83 (by decide) (fun c16 => ?_) (fun c16 => ?_)
                · have hf := (if_pos c16).symm.trans hf
                  exact b121 _ _ _ _ hf (lv_sub hl [0] rfl) hP hD hS
                · have hf := (if_neg c16).symm.trans hf
                  refine lv_iload_n hx hb dX9_copy_86 rfl (lv_at hl 2 rfl) ?_
                  refine lv_i2l hx hb dX9_copy_87 rfl ?_
                  refine lv_iload hx hb dX9_copy_88 (lv_at hl 5 rfl) ?_
                  refine lv_i2l hx hb dX9_copy_90 rfl ?_
                  refine lv_ladd hx hb dX9_copy_91 ?_
                  refine lv_aload_n hx hb dX9_copy_92 rfl (lv_at hl 0 rfl) ?_
                  refine Mg_3 S hin hK hP f13 dX9_copy_93 ?_
                  refine lv_iload_n hx hb dX9_copy_96 rfl (lv_at hl 1 rfl) ?_
                  obtain ⟨g17, hf⟩ := gd_some hf
                  refine Ml_3 S hK hP g17 dX9_copy_97 ?_
                  refine lv_i2l hx hb dX9_copy_98 rfl ?_
                  refine W.lcmp hx hb dX9_copy_99 ?_
                  refine lv_if_gt (tgt := 121) hx hb dX9_copy_100 (by decide) (fun c18 => ?_) (fun c18 => ?_)
                  · have hf := (if_pos c18).symm.trans hf
                    exact b121 _ _ _ _ hf (lv_sub hl [0] rfl) hP hD hS
                  · have hf := (if_neg c18).symm.trans hf
                    refine lv_iload hx hb dX9_copy_103 (lv_at hl 4 rfl) ?_
                    refine lv_i2l hx hb dX9_copy_105 rfl ?_
                    refine lv_iload hx hb dX9_copy_106 (lv_at hl 5 rfl) ?_
                    refine lv_i2l hx hb dX9_copy_108 rfl ?_
                    refine lv_ladd hx hb dX9_copy_109 ?_
                    refine lv_aload_n hx hb dX9_copy_110 rfl (lv_at hl 0 rfl) ?_
                    refine Mg_3 S hin hK hP f13 dX9_copy_111 ?_
                    refine lv_iload_n hx hb dX9_copy_114 rfl (lv_at hl 3 rfl) ?_
                    obtain ⟨g19, hf⟩ := gd_some hf
                    refine Ml_3 S hK hP g19 dX9_copy_115 ?_
                    refine lv_i2l hx hb dX9_copy_116 rfl ?_
                    refine W.lcmp hx hb dX9_copy_117 ?_
                    refine lv_if_le (tgt := 127) hx hb dX9_copy_118 (by decide) (fun c20 => ?_) (fun c20 => ?_)
                    · have hf := (if_pos c20).symm.trans hf
                      refine lv_iload_n hx hb dX9_copy_127 rfl (lv_at hl 2 rfl) ?_
                      refine lv_iload hx hb dX9_copy_128 (lv_at hl 4 rfl) ?_
                      refine lv_icmp_lt (tgt := 137) hx hb dX9_copy_130 (by decide) (fun c21 => ?_) (fun c21 => ?_)
                      · have hf := (if_pos c21).symm.trans hf
                        refine lv_iconst (v := 0) hx hb dX9_copy_137 (by decide) ?_
                        exact b138 _ _ _ _ _ _ _ _ _ _ hf (lv_sub hl [0, 1, 2, 3, 4, 5] rfl) hP hD hS
                      · have hf := (if_neg c21).symm.trans hf
                        refine lv_iconst (v := 1) hx hb dX9_copy_133 (by decide) ?_
                        refine lv_goto (tgt := 138) hx hb dX9_copy_134 (by decide) ?_
                        exact b138 _ _ _ _ _ _ _ _ _ _ hf (lv_sub hl [0, 1, 2, 3, 4, 5] rfl) hP hD hS
                    · have hf := (if_neg c20).symm.trans hf
                      exact b121 _ _ _ _ hf (lv_sub hl [0] rfl) hP hD hS
          · have hf := (if_neg c13).symm.trans hf
            refine lv_aload_n hx hb dX9_copy_66 rfl (lv_at hl 0 rfl) ?_
            refine lv_iconst (v := 5) hx hb dX9_copy_67 (by decide) ?_
            obtain ⟨r22, σ23, hr22, hf⟩ := bd2_some hf
            refine kc_v (ci := 8) (q0 := 0) (n := 1) S hRf hRl hK hA hP hD hS hl [.int 5] [] (kM_finding l D h cI cZ σ6 5 r22 σ23 hr22) gX9_copy_X9_finding rfl (by decide +kernel) rfl ⟨by decide, by decide⟩ rfl rfl rfl rfl (Nat.le_of_ble_eq_true rfl) dX9_copy_68 (fun H locs hP hD hS => ?_)
            refine W.eq (g2 := F0 m 71 ls [.int r22]) rfl ?_
            exact hre _ _ _ _ _ _ hf hP hD hS dX9_copy_71
        · have hf := (if_neg c10).symm.trans hf
          exact b45 _ _ _ _ hf (lv_sub hl [0] rfl) hP hD hS
    · have hf := (if_pos c5).symm.trans hf
      refine lv_ldc (v := (-1000001)) hx hb hown c67 dX9_copy_19 ?_
      exact hre _ _ _ _ _ _ hf hP hD hS dX9_copy_21
def FM_drop (σ : MS) (a1 : Int32) : Option (Int32 × MS) :=
  nm (setF σ 0 0) fun (σ1 : MS) => Option.bind (FM_isRow a1) fun (r2 : Int32) => if r2 = 0 then (some ((-1000001), σ1)) else (nm (setF σ1 1 0) fun (σ4 : MS) => gd (¬ ((a1 : Int32) < 0 ∨ 8 ≤ Int32.toNatClampNeg a1)) (if 0 ≤ (σ4.2 2 (Int32.toNatClampNeg a1)) then (gd (¬ ((a1 : Int32) < 0 ∨ 8 ≤ Int32.toNatClampNeg a1)) (nm (setA σ4 2 (Int32.toNatClampNeg a1) (-1)) fun (σ8 : MS) => gd (¬ ((a1 : Int32) < 0 ∨ 8 ≤ Int32.toNatClampNeg a1)) (some ((σ8.2 3 (Int32.toNatClampNeg a1)), σ8)))) else (bd2 (FM_finding σ4 1) fun (r10 : Int32) (σ11 : MS) => some (r10, σ11))))
set_option maxHeartbeats 4000000 in
set_option maxRecDepth 100000 in
theorem kM_drop (l : Launch) (D : va_G) (h : Nat → Nat) (cI cZ : ClassId) (σ : MS) (a1 : Int32) (r : Int32) (σ' : MS) (hf : FM_drop σ a1 = some (r, σ')) : KK l D [(cI, .int), (cZ, .boolean)] yX9_drop wsX9_drop 2 45 [.ref (h 0), .int a1] (mw h cI cZ σ) (some (.int r)) (mw h cI cZ σ') := by
  refine KK.ofI (own := RX9) (cc := cX9_drop) (maxL := 2) (by decide) rfl rfl (Nat.le_of_ble_eq_true rfl) ?_
  intro p e s m args below meth c R Q A ls S hRf hRl hK hA hP hD hS hl hret
  obtain ⟨hx, hb, hml, hown, hts⟩ := id S
  have hin : ∀ w ∈ wsX90, w ∈ wsX9_drop := fun w hw => List.mem_cons_of_mem _ (List.mem_append_right _ hw)
  have f47 := hts (.fieldLink RX9 47 "PenniesAwayModel" "thrown" "I") (by decide +kernel)
  have f51 := hts (.fieldLink RX9 51 "PenniesAwayModel" "status" "I") (by decide +kernel)
  have f7 := hts (.fieldLink RX9 7 "PenniesAwayModel" "lane" "[I") (by decide +kernel)
  have f13 := hts (.fieldLink RX9 13 "PenniesAwayModel" "many" "[I") (by decide +kernel)
  have c67 := hts (.constant RX9 67 (-1000001)) (by decide +kernel)
  have hl : lv_has ls 2 [(0, .ref (h 0)), (1, .int a1)] := hl
  have hre : ∀ (x : Int32) (σx : MS) (pc : Nat) (ls : Array Slot) (H : Heap) (locs : List Loc), (some (x, σx) : Option (Int32 × MS)) = some (r, σ') → va_P D vwCl (mw h cI cZ σx) H → va_D A (mw h cI cZ σx) → va_S A s.heap H locs → decode cX9_drop pc = .ok (.ireturn, 1) → W p l e R s m args below meth c H locs 0 0 Q (F0 m pc ls [.int x]) := by intro x σx pc ls H locs he; cases he; exact hret pc ls H locs
  unfold FM_drop at hf
  refine lv_aload_n hx hb dX9_drop_0 rfl (lv_at hl 0 rfl) ?_
  refine lv_iconst (v := 0) hx hb dX9_drop_1 (by decide) ?_
  refine Mp_0 S hin hK hP hD hS f47 dX9_drop_2 (fun H locs hP hD hS => ?_)
  obtain ⟨σ1, eσ1, hf⟩ := nm_some hf
  rw [← eσ1] at hP hD
  refine lv_iload_n hx hb dX9_drop_5 rfl (lv_at hl 1 rfl) ?_
  obtain ⟨r2, hr2, hf⟩ := bi_some hf
  refine kc_s (n := 1) S hRf hRl hK hA hP hD hS hl [.int a1] [] (kM_isRow l D _ _ a1 r2 hr2) gX9_drop_X9_isRow rfl (by decide +kernel) rfl ⟨by decide, by decide⟩ rfl (Nat.le_of_ble_eq_true rfl) dX9_drop_6 (fun H locs hP hD hS => ?_)
  refine W.eq (g2 := F0 m 9 ls [.int r2]) rfl ?_
  refine lv_if_ne (tgt := 15) hx hb dX9_drop_9 (by decide) (fun c3 => ?_) (fun c3 => ?_)
  · have hf := (if_neg c3).symm.trans hf
    refine lv_aload_n hx hb dX9_drop_15 rfl (lv_at hl 0 rfl) ?_
    refine lv_iconst (v := 0) hx hb dX9_drop_16 (by decide) ?_
    refine Mp_1 S hin hK hP hD hS f51 dX9_drop_17 (fun H locs hP hD hS => ?_)
    obtain ⟨σ4, eσ4, hf⟩ := nm_some hf
    rw [← eσ4] at hP hD
    refine lv_aload_n hx hb dX9_drop_20 rfl (lv_at hl 0 rfl) ?_
    refine Mg_2 S hin hK hP f7 dX9_drop_21 ?_
    refine lv_iload_n hx hb dX9_drop_24 rfl (lv_at hl 1 rfl) ?_
    obtain ⟨g5, hf⟩ := gd_some hf
    refine Ml_2 S hK hP g5 dX9_drop_25 ?_
    refine lv_if_ge (tgt := 35) hx hb dX9_drop_26 (by decide) (fun c6 => ?_) (fun c6 => ?_)
    · have hf := (if_pos c6).symm.trans hf
      refine lv_aload_n hx hb dX9_drop_35 rfl (lv_at hl 0 rfl) ?_
      refine Mg_2 S hin hK hP f7 dX9_drop_36 ?_
      refine lv_iload_n hx hb dX9_drop_39 rfl (lv_at hl 1 rfl) ?_
      refine lv_iconst (v := (-1)) hx hb dX9_drop_40 (by decide) ?_
      obtain ⟨g7, hf⟩ := gd_some hf
      refine Ms_2 S hK hP hD hS g7 dX9_drop_41 (fun H locs hP hD hS => ?_)
      obtain ⟨σ8, eσ8, hf⟩ := nm_some hf
      rw [← eσ8] at hP hD
      refine lv_aload_n hx hb dX9_drop_42 rfl (lv_at hl 0 rfl) ?_
      refine Mg_3 S hin hK hP f13 dX9_drop_43 ?_
      refine lv_iload_n hx hb dX9_drop_46 rfl (lv_at hl 1 rfl) ?_
      obtain ⟨g9, hf⟩ := gd_some hf
      refine Ml_3 S hK hP g9 dX9_drop_47 ?_
      exact hre _ _ _ _ _ _ hf hP hD hS dX9_drop_48
    · have hf := (if_neg c6).symm.trans hf
      refine lv_aload_n hx hb dX9_drop_29 rfl (lv_at hl 0 rfl) ?_
      refine lv_iconst (v := 1) hx hb dX9_drop_30 (by decide) ?_
      obtain ⟨r10, σ11, hr10, hf⟩ := bd2_some hf
      refine kc_v (ci := 8) (q0 := 0) (n := 1) S hRf hRl hK hA hP hD hS hl [.int 1] [] (kM_finding l D h cI cZ σ4 1 r10 σ11 hr10) gX9_drop_X9_finding rfl (by decide +kernel) rfl ⟨by decide, by decide⟩ rfl rfl rfl rfl (Nat.le_of_ble_eq_true rfl) dX9_drop_31 (fun H locs hP hD hS => ?_)
      refine W.eq (g2 := F0 m 34 ls [.int r10]) rfl ?_
      exact hre _ _ _ _ _ _ hf hP hD hS dX9_drop_34
  · have hf := (if_pos c3).symm.trans hf
    refine lv_ldc (v := (-1000001)) hx hb hown c67 dX9_drop_12 ?_
    exact hre _ _ _ _ _ _ hf hP hD hS dX9_drop_14
def FM_feed_40  : Nat → MS → Int64 → Int32 → Option (Int32 × MS)
  | 0, _, _, _ => none
  | n + 1, σ, l1, l4 => if l4 < 0 then (some ((σ.1 11), σ)) else (gd (¬ (((σ.1 11) : Int32) < 0 ∨ 500 ≤ Int32.toNatClampNeg (σ.1 11))) (nm (setA σ 10 (Int32.toNatClampNeg (σ.1 11)) (Int64.toInt32 ((l1 >>> (Int32.toInt64 (8 * l4) &&& 63)) &&& 255))) fun (σ8 : MS) => nm (setF σ8 11 ((σ8.1 11) + 1)) fun (σ9 : MS) => nm (l4 + (-1)) fun (x10 : Int32) => (FM_feed_40 n) σ9 l1 x10))
def FM_feed (σ : MS) (a1 : Int64) (a3 : Int32) : Option (Int32 × MS) :=
  nm (setF σ 0 0) fun (σ1 : MS) => Option.bind (FM_in (Int32.toInt64 a3) 1 8) fun (r2 : Int32) => if r2 = 0 then (some ((-1000001), σ1)) else (if ((σ1.1 11) + a3) ≤ 500 then (nm (a3 - 1) fun (x5 : Int32) => FM_feed_40 fuelN σ1 a1 x5) else (some ((-1000003), σ1)))
set_option maxHeartbeats 4000000 in
set_option maxRecDepth 100000 in
theorem kM_feed (l : Launch) (D : va_G) (h : Nat → Nat) (cI cZ : ClassId) (σ : MS) (a1 : Int64) (a3 : Int32) (r : Int32) (σ' : MS) (hf : FM_feed σ a1 a3 = some (r, σ')) : KK l D [(cI, .int), (cZ, .boolean)] yX9_feed wsX9_feed 1 25 [.ref (h 0), .long a1, .int a3] (mw h cI cZ σ) (some (.int r)) (mw h cI cZ σ') := by
  refine KK.ofI (own := RX9) (cc := cX9_feed) (maxL := 5) (by decide) rfl rfl (Nat.le_of_ble_eq_true rfl) ?_
  intro p e s m args below meth c R Q A ls S hRf hRl hK hA hP hD hS hl hret
  obtain ⟨hx, hb, hml, hown, hts⟩ := id S
  have hin : ∀ w ∈ wsX90, w ∈ wsX9_feed := fun w hw => List.mem_cons_of_mem _ (List.mem_append_right _ hw)
  have f47 := hts (.fieldLink RX9 47 "PenniesAwayModel" "thrown" "I") (by decide +kernel)
  have c72 := hts (.constantLong RX9 72 (8)) (by decide +kernel)
  have f74 := hts (.fieldLink RX9 74 "PenniesAwayModel" "taped" "I") (by decide +kernel)
  have c77 := hts (.constant RX9 77 (-1000003)) (by decide +kernel)
  have c67 := hts (.constant RX9 67 (-1000001)) (by decide +kernel)
  have f28 := hts (.fieldLink RX9 28 "PenniesAwayModel" "tape" "[I") (by decide +kernel)
  have c78 := hts (.constantLong RX9 78 (255)) (by decide +kernel)
  have hl : lv_has ls 5 [(0, .ref (h 0)), (1, .long a1), (3, .int a3)] := hl
  have hre : ∀ (x : Int32) (σx : MS) (pc : Nat) (ls : Array Slot) (H : Heap) (locs : List Loc), (some (x, σx) : Option (Int32 × MS)) = some (r, σ') → va_P D vwCl (mw h cI cZ σx) H → va_D A (mw h cI cZ σx) → va_S A s.heap H locs → decode cX9_feed pc = .ok (.ireturn, 1) → W p l e R s m args below meth c H locs 0 0 Q (F0 m pc ls [.int x]) := by intro x σx pc ls H locs he; cases he; exact hret pc ls H locs
  have b40 : ∀ (n : Nat), ∀ (σ : MS) (l1 : Int64) (l4 : Int32) (ls : Array Slot) (H : Heap) (locs : List Loc), FM_feed_40 n σ l1 l4 = some (r, σ') → lv_has ls 5 [(0, .ref (h 0)), (1, .long l1), (4, .int l4)] → va_P D vwCl (mw h cI cZ σ) H → va_D A (mw h cI cZ σ) → va_S A s.heap H locs → W p l e R s m args below meth c H locs 0 0 Q (F0 m 40 ls []) := by
    intro n
    induction n with
    | zero => intro σ l1 l4 ls H locs hf; exact absurd hf (by simp [FM_feed_40])
    | succ n ih =>
      intro σ l1 l4 ls H locs hf hl hP hD hS
      rw [FM_feed_40] at hf
      refine lv_iload hx hb dX9_feed_40 (lv_at hl 2 rfl) ?_
      refine lv_if_lt (tgt := 82) hx hb dX9_feed_42 (by decide) (fun c6 => ?_) (fun c6 => ?_)
      · have hf := (if_pos c6).symm.trans hf
        refine lv_aload_n hx hb dX9_feed_82 rfl (lv_at hl 0 rfl) ?_
        refine Mg_11 S hin hK hP f74 dX9_feed_83 ?_
        exact hre _ _ _ _ _ _ hf hP hD hS dX9_feed_86
      · have hf := (if_neg c6).symm.trans hf
        refine lv_aload_n hx hb dX9_feed_45 rfl (lv_at hl 0 rfl) ?_
        refine Mg_10 S hin hK hP f28 dX9_feed_46 ?_
        refine lv_aload_n hx hb dX9_feed_49 rfl (lv_at hl 0 rfl) ?_
        refine Mg_11 S hin hK hP f74 dX9_feed_50 ?_
        refine lv_lload_n hx hb dX9_feed_53 rfl (lv_at hl 1 rfl) ?_
        refine lv_bipush (v := 8) hx hb dX9_feed_54 (by decide) ?_
        refine lv_iload hx hb dX9_feed_56 (lv_at hl 2 rfl) ?_
        refine lv_imul hx hb dX9_feed_58 ?_
        refine lv_lshr hx hb dX9_feed_59 rfl ?_
        refine lv_ldc2 (v := 255) hx hb hown c78 dX9_feed_60 ?_
        refine lv_land hx hb dX9_feed_63 ?_
        refine lv_l2i hx hb dX9_feed_64 rfl ?_
        obtain ⟨g7, hf⟩ := gd_some hf
        refine Ms_10 S hK hP hD hS g7 dX9_feed_65 (fun H locs hP hD hS => ?_)
        obtain ⟨σ8, eσ8, hf⟩ := nm_some hf
        rw [← eσ8] at hP hD
        refine lv_aload_n hx hb dX9_feed_66 rfl (lv_at hl 0 rfl) ?_
        refine lv_dup hx hb dX9_feed_67 rfl ?_
        refine Mg_11 S hin hK hP f74 dX9_feed_68 ?_
        refine lv_iconst (v := 1) hx hb dX9_feed_71 (by decide) ?_
        refine lv_iadd hx hb dX9_feed_72 ?_
        refine Mp_11 S hin hK hP hD hS f74 dX9_feed_73 (fun H locs hP hD hS => ?_)
        obtain ⟨σ9, eσ9, hf⟩ := nm_some hf
        rw [← eσ9] at hP hD
        obtain ⟨x10, ex10, hf⟩ := nm_some hf
        refine lv_iinc (v := x10) (lv' := [(4, .int x10), (0, .ref (h 0)), (1, .long l1)]) hx hb dX9_feed_76 hl (k := 2) rfl (by rw [ex10]; rfl) (by decide) rfl (fun ls hl => ?_)
        refine lv_goto (tgt := 40) hx hb dX9_feed_79 (by decide) ?_
        exact ih _ _ _ _ _ _ hf (lv_sub hl [1, 2, 0] rfl) hP hD hS
  unfold FM_feed at hf
  refine lv_aload_n hx hb dX9_feed_0 rfl (lv_at hl 0 rfl) ?_
  refine lv_iconst (v := 0) hx hb dX9_feed_1 (by decide) ?_
  refine Mp_0 S hin hK hP hD hS f47 dX9_feed_2 (fun H locs hP hD hS => ?_)
  obtain ⟨σ1, eσ1, hf⟩ := nm_some hf
  rw [← eσ1] at hP hD
  refine lv_iload_n hx hb dX9_feed_5 rfl (lv_at hl 2 rfl) ?_
  refine lv_i2l hx hb dX9_feed_6 rfl ?_
  refine lv_lconst (v := 1) hx hb dX9_feed_7 (by decide) ?_
  refine lv_ldc2 (v := 8) hx hb hown c72 dX9_feed_8 ?_
  obtain ⟨r2, hr2, hf⟩ := bi_some hf
  refine kc_s (n := 3) S hRf hRl hK hA hP hD hS hl [.long (Int32.toInt64 a3), .long 1, .long 8] [] (kM_in l D _ _ (Int32.toInt64 a3) 1 8 r2 hr2) gX9_feed_X9_in rfl (by decide +kernel) rfl ⟨by decide, by decide⟩ rfl (Nat.le_of_ble_eq_true rfl) dX9_feed_11 (fun H locs hP hD hS => ?_)
  refine W.eq (g2 := F0 m 14 ls [.int r2]) rfl ?_
  refine lv_if_ne (tgt := 20) hx hb dX9_feed_14 (by decide) (fun c3 => ?_) (fun c3 => ?_)
  · have hf := (if_neg c3).symm.trans hf
    refine lv_aload_n hx hb dX9_feed_20 rfl (lv_at hl 0 rfl) ?_
    refine Mg_11 S hin hK hP f74 dX9_feed_21 ?_
    refine lv_iload_n hx hb dX9_feed_24 rfl (lv_at hl 2 rfl) ?_
    refine lv_iadd hx hb dX9_feed_25 ?_
    refine lv_sipush (v := 500) hx hb dX9_feed_26 (by decide) ?_
    refine lv_icmp_le (tgt := 35) hx hb dX9_feed_29 (by decide) (fun c4 => ?_) (fun c4 => ?_)
    · have hf := (if_pos c4).symm.trans hf
      refine lv_iload_n hx hb dX9_feed_35 rfl (lv_at hl 2 rfl) ?_
      refine lv_iconst (v := 1) hx hb dX9_feed_36 (by decide) ?_
      refine lv_isub hx hb dX9_feed_37 ?_
      refine lv_topi (fun x5 ex5 => ?_)
      have hf := nm_at ex5 hf
      refine lv_istore (lv' := [(4, .int x5), (0, .ref (h 0)), (1, .long a1), (3, .int a3)]) hx hb dX9_feed_38 hl (by decide) rfl (fun ls hl => ?_)
      exact b40 fuelN _ _ _ _ _ _ hf (lv_sub hl [1, 2, 0] rfl) hP hD hS
    · have hf := (if_neg c4).symm.trans hf
      refine lv_ldc (v := (-1000003)) hx hb hown c77 dX9_feed_32 ?_
      exact hre _ _ _ _ _ _ hf hP hD hS dX9_feed_34
  · have hf := (if_pos c3).symm.trans hf
    refine lv_ldc (v := (-1000001)) hx hb hown c67 dX9_feed_17 ?_
    exact hre _ _ _ _ _ _ hf hP hD hS dX9_feed_19
def FM_byteAt (σ : MS) (a1 : Int32) : Option Int32 :=
  if (σ.1 13) ≤ a1 then (some (-1000000)) else (gd (¬ ((a1 : Int32) < 0 ∨ 500 ≤ Int32.toNatClampNeg a1)) (some (σ.2 10 (Int32.toNatClampNeg a1))))
set_option maxHeartbeats 4000000 in
set_option maxRecDepth 100000 in
theorem kM_byteAt (l : Launch) (D : va_G) (h : Nat → Nat) (cI cZ : ClassId) (σ : MS) (a1 : Int32) (r : Int32) (hf : FM_byteAt σ a1 = some r) : KK l D [(cI, .int), (cZ, .boolean)] yX9_byteAt wsX9_byteAt 0 0 [.ref (h 0), .int a1] (mw h cI cZ σ) (some (.int r)) (mw h cI cZ σ) := by
  refine KK.ofI (own := RX9) (cc := cX9_byteAt) (maxL := 2) (by decide) rfl rfl (Nat.le_of_ble_eq_true rfl) ?_
  intro p e s m args below meth c R Q A ls S hRf hRl hK hA hP hD hS hl hret
  obtain ⟨hx, hb, hml, hown, hts⟩ := id S
  have hin : ∀ w ∈ wsX90, w ∈ wsX9_byteAt := fun w hw => List.mem_cons_of_mem _ (List.mem_append_right _ hw)
  have f80 := hts (.fieldLink RX9 80 "PenniesAwayModel" "length" "I") (by decide +kernel)
  have c83 := hts (.constant RX9 83 (-1000000)) (by decide +kernel)
  have f28 := hts (.fieldLink RX9 28 "PenniesAwayModel" "tape" "[I") (by decide +kernel)
  have hl : lv_has ls 2 [(0, .ref (h 0)), (1, .int a1)] := hl
  have hre : ∀ (x : Int32) (pc : Nat) (ls : Array Slot) (H : Heap) (locs : List Loc), (some x : Option Int32) = some r → va_P D vwCl (mw h cI cZ σ) H → va_D A (mw h cI cZ σ) → va_S A s.heap H locs → decode cX9_byteAt pc = .ok (.ireturn, 1) → W p l e R s m args below meth c H locs 0 0 Q (F0 m pc ls [.int x]) := by intro x pc ls H locs he; cases he; exact hret pc ls H locs
  unfold FM_byteAt at hf
  refine lv_iload_n hx hb dX9_byteAt_0 rfl (lv_at hl 1 rfl) ?_
  refine lv_aload_n hx hb dX9_byteAt_1 rfl (lv_at hl 0 rfl) ?_
  refine Mg_13 S hin hK hP f80 dX9_byteAt_2 ?_
  refine lv_icmp_ge (tgt := 17) hx hb dX9_byteAt_5 (by decide) (fun c1 => ?_) (fun c1 => ?_)
  · have hf := (if_pos c1).symm.trans hf
    refine lv_ldc (v := (-1000000)) hx hb hown c83 dX9_byteAt_17 ?_
    exact hre _ _ _ _ _ hf hP hD hS dX9_byteAt_19
  · have hf := (if_neg c1).symm.trans hf
    refine lv_aload_n hx hb dX9_byteAt_8 rfl (lv_at hl 0 rfl) ?_
    refine Mg_10 S hin hK hP f28 dX9_byteAt_9 ?_
    refine lv_iload_n hx hb dX9_byteAt_12 rfl (lv_at hl 1 rfl) ?_
    obtain ⟨g2, hf⟩ := gd_some hf
    refine Ml_10 S hK hP g2 dX9_byteAt_13 ?_
    refine lv_goto (tgt := 19) hx hb dX9_byteAt_14 (by decide) ?_
    exact hre _ _ _ _ _ hf hP hD hS dX9_byteAt_19
def FM_isLetter (a0 : Int32) : Option Int32 :=
  if a0 < 97 then (some 0) else (if 122 < a0 then (some 0) else (some 1))
set_option maxHeartbeats 4000000 in
set_option maxRecDepth 100000 in
theorem kM_isLetter (l : Launch) (D : va_G) (tys : List (ClassId × FieldType)) (w0 : va_W) (a0 : Int32) (r : Int32) (hf : FM_isLetter a0 = some r) : KK l D tys yX9_isLetter wsX9_isLetter 0 0 [.int a0] w0 (some (.int r)) w0 := by
  refine KK.ofZ (own := RX9) (cc := cX9_isLetter) (maxL := 1) (by decide) rfl rfl (Nat.le_of_ble_eq_true rfl) ?_
  intro p e s m args below meth c R Q A ls S hRf hRl hK hA hP hD hS hl hret
  obtain ⟨hx, hb, hml, hown, hts⟩ := id S
  have hl : lv_has ls 1 [(0, .int a0)] := hl
  have hre : ∀ (x : Int32) (pc : Nat) (ls : Array Slot) (H : Heap) (locs : List Loc), (some x : Option Int32) = some r → va_P D vwCl w0 H → va_D A w0 → va_S A s.heap H locs → decode cX9_isLetter pc = .ok (.ireturn, 1) → narrow .boolean (.int x) = .int x → W p l e R s m args below meth c H locs 0 0 Q (F0 m pc ls [.int x]) := by intro x pc ls H locs he; cases he; exact hret pc ls H locs
  unfold FM_isLetter at hf
  refine lv_iload_n hx hb dX9_isLetter_0 rfl (lv_at hl 0 rfl) ?_
  refine lv_bipush (v := 97) hx hb dX9_isLetter_1 (by decide) ?_
  refine lv_icmp_lt (tgt := 16) hx hb dX9_isLetter_3 (by decide) (fun c1 => ?_) (fun c1 => ?_)
  · have hf := (if_pos c1).symm.trans hf
    refine lv_iconst (v := 0) hx hb dX9_isLetter_16 (by decide) ?_
    exact hre _ _ _ _ _ hf hP hD hS dX9_isLetter_17 rfl
  · have hf := (if_neg c1).symm.trans hf
    refine lv_iload_n hx hb dX9_isLetter_6 rfl (lv_at hl 0 rfl) ?_
    refine lv_bipush (v := 122) hx hb dX9_isLetter_7 (by decide) ?_
    refine lv_icmp_gt (tgt := 16) hx hb dX9_isLetter_9 (by decide) (fun c2 => ?_) (fun c2 => ?_)
    · have hf := (if_pos c2).symm.trans hf
      refine lv_iconst (v := 0) hx hb dX9_isLetter_16 (by decide) ?_
      exact hre _ _ _ _ _ hf hP hD hS dX9_isLetter_17 rfl
    · have hf := (if_neg c2).symm.trans hf
      refine lv_iconst (v := 1) hx hb dX9_isLetter_12 (by decide) ?_
      refine lv_goto (tgt := 17) hx hb dX9_isLetter_13 (by decide) ?_
      exact hre _ _ _ _ _ hf hP hD hS dX9_isLetter_17 rfl
def FM_isFigure (a0 : Int32) : Option Int32 :=
  if a0 < 48 then (some 0) else (if 57 < a0 then (some 0) else (some 1))
set_option maxHeartbeats 4000000 in
set_option maxRecDepth 100000 in
theorem kM_isFigure (l : Launch) (D : va_G) (tys : List (ClassId × FieldType)) (w0 : va_W) (a0 : Int32) (r : Int32) (hf : FM_isFigure a0 = some r) : KK l D tys yX9_isFigure wsX9_isFigure 0 0 [.int a0] w0 (some (.int r)) w0 := by
  refine KK.ofZ (own := RX9) (cc := cX9_isFigure) (maxL := 1) (by decide) rfl rfl (Nat.le_of_ble_eq_true rfl) ?_
  intro p e s m args below meth c R Q A ls S hRf hRl hK hA hP hD hS hl hret
  obtain ⟨hx, hb, hml, hown, hts⟩ := id S
  have hl : lv_has ls 1 [(0, .int a0)] := hl
  have hre : ∀ (x : Int32) (pc : Nat) (ls : Array Slot) (H : Heap) (locs : List Loc), (some x : Option Int32) = some r → va_P D vwCl w0 H → va_D A w0 → va_S A s.heap H locs → decode cX9_isFigure pc = .ok (.ireturn, 1) → narrow .boolean (.int x) = .int x → W p l e R s m args below meth c H locs 0 0 Q (F0 m pc ls [.int x]) := by intro x pc ls H locs he; cases he; exact hret pc ls H locs
  unfold FM_isFigure at hf
  refine lv_iload_n hx hb dX9_isFigure_0 rfl (lv_at hl 0 rfl) ?_
  refine lv_bipush (v := 48) hx hb dX9_isFigure_1 (by decide) ?_
  refine lv_icmp_lt (tgt := 16) hx hb dX9_isFigure_3 (by decide) (fun c1 => ?_) (fun c1 => ?_)
  · have hf := (if_pos c1).symm.trans hf
    refine lv_iconst (v := 0) hx hb dX9_isFigure_16 (by decide) ?_
    exact hre _ _ _ _ _ hf hP hD hS dX9_isFigure_17 rfl
  · have hf := (if_neg c1).symm.trans hf
    refine lv_iload_n hx hb dX9_isFigure_6 rfl (lv_at hl 0 rfl) ?_
    refine lv_bipush (v := 57) hx hb dX9_isFigure_7 (by decide) ?_
    refine lv_icmp_gt (tgt := 16) hx hb dX9_isFigure_9 (by decide) (fun c2 => ?_) (fun c2 => ?_)
    · have hf := (if_pos c2).symm.trans hf
      refine lv_iconst (v := 0) hx hb dX9_isFigure_16 (by decide) ?_
      exact hre _ _ _ _ _ hf hP hD hS dX9_isFigure_17 rfl
    · have hf := (if_neg c2).symm.trans hf
      refine lv_iconst (v := 1) hx hb dX9_isFigure_12 (by decide) ?_
      refine lv_goto (tgt := 17) hx hb dX9_isFigure_13 (by decide) ?_
      exact hre _ _ _ _ _ hf hP hD hS dX9_isFigure_17 rfl
def FM_next_26 (ag0 : MS → Option MS) (σ : MS) : Option MS :=
  nm (setF σ 14 ((σ.1 14) + 1)) fun (σ28 : MS) => ag0 σ28
def FM_next_196 (σ : MS) : Option MS :=
  nm (setF σ 17 (σ.1 14)) fun (σ27 : MS) => some σ27
def FM_next_193 (σ : MS) (s0 : Int32) : Option MS :=
  nm (setF σ 15 s0) fun (σ26 : MS) => FM_next_196 σ26
def FM_next_165 (σ : MS) (s0 : Int32) : Option MS :=
  nm (setF σ 15 s0) fun (σ25 : MS) => FM_next_196 σ25
def FM_next_119  : Nat → MS → Option MS
  | 0, _ => none
  | n + 1, σ => Option.bind (FM_byteAt σ (σ.1 14)) fun (r20 : Int32) => Option.bind (FM_isFigure r20) fun (r21 : Int32) => if r21 = 0 then (if ((σ.1 14) - (σ.1 16)) ≤ 3 then (FM_next_165 σ 3) else (FM_next_165 σ 0)) else (nm (setF σ 14 ((σ.1 14) + 1)) fun (σ24 : MS) => (FM_next_119 n) σ24)
def FM_next_77  : Nat → MS → Option MS
  | 0, _ => none
  | n + 1, σ => Option.bind (FM_byteAt σ (σ.1 14)) fun (r15 : Int32) => Option.bind (FM_isLetter r15) fun (r16 : Int32) => if r16 = 0 then (nm (setF σ 15 2) fun (σ18 : MS) => FM_next_196 σ18) else (nm (setF σ 14 ((σ.1 14) + 1)) fun (σ19 : MS) => (FM_next_77 n) σ19)
def FM_next_0  : Nat → MS → Option MS
  | 0, _ => none
  | n + 1, σ => Option.bind (FM_byteAt σ (σ.1 14)) fun (r1 : Int32) => if r1 = 32 then (FM_next_26 (FM_next_0 n) σ) else (Option.bind (FM_byteAt σ (σ.1 14)) fun (r3 : Int32) => if r3 = 10 then (FM_next_26 (FM_next_0 n) σ) else (nm (setF σ 16 (σ.1 14)) fun (σ5 : MS) => Option.bind (FM_byteAt σ5 (σ5.1 14)) fun (r6 : Int32) => if r6 = (-1000000) then (nm (setF σ5 15 1) fun (σ14 : MS) => FM_next_196 σ14) else (Option.bind (FM_isLetter r6) fun (r8 : Int32) => if r8 = 0 then (Option.bind (FM_isFigure r6) fun (r10 : Int32) => if r10 = 0 then (nm (setF σ5 14 ((σ5.1 14) + 1)) fun (σ12 : MS) => if r6 = 59 then (FM_next_193 σ12 4) else (FM_next_193 σ12 0)) else (FM_next_119 fuelN σ5)) else (FM_next_77 fuelN σ5))))
def FM_next (σ : MS) : Option MS :=
  FM_next_0 fuelN σ
set_option maxHeartbeats 4000000 in
set_option maxRecDepth 100000 in
theorem kM_next (l : Launch) (D : va_G) (h : Nat → Nat) (cI cZ : ClassId) (σ : MS)  (σ' : MS) (hf : FM_next σ = some σ') : KK l D [(cI, .int), (cZ, .boolean)] yX9_next wsX9_next 1 21 [.ref (h 0)] (mw h cI cZ σ) none (mw h cI cZ σ') := by
  refine KK.ofV (own := RX9) (cc := cX9_next) (maxL := 2) (by decide) rfl rfl (Nat.le_of_ble_eq_true rfl) ?_
  intro p e s m args below meth c R Q A ls S hRf hRl hK hA hP hD hS hl hret
  obtain ⟨hx, hb, hml, hown, hts⟩ := id S
  have hin : ∀ w ∈ wsX90, w ∈ wsX9_next := fun w hw => List.mem_cons_of_mem _ (List.mem_append_right _ hw)
  have f84 := hts (.fieldLink RX9 84 "PenniesAwayModel" "cursor" "I") (by decide +kernel)
  have f90 := hts (.fieldLink RX9 90 "PenniesAwayModel" "start" "I") (by decide +kernel)
  have c83 := hts (.constant RX9 83 (-1000000)) (by decide +kernel)
  have f93 := hts (.fieldLink RX9 93 "PenniesAwayModel" "token" "I") (by decide +kernel)
  have f102 := hts (.fieldLink RX9 102 "PenniesAwayModel" "till" "I") (by decide +kernel)
  have hl : lv_has ls 2 [(0, .ref (h 0))] := hl
  have hre : ∀ (σx : MS) (pc : Nat) (ls : Array Slot) (H : Heap) (locs : List Loc), (some σx : Option MS) = some σ' → va_P D vwCl (mw h cI cZ σx) H → va_D A (mw h cI cZ σx) → va_S A s.heap H locs → decode cX9_next pc = .ok (.return_, 1) → W p l e R s m args below meth c H locs 0 0 Q (F0 m pc ls []) := by intro σx pc ls H locs he; cases he; exact hret pc ls H locs
  have b26 : ∀ (ag0 : MS → Option MS) (hag0 : ∀ (σ : MS) (ls : Array Slot) (H : Heap) (locs : List Loc), ag0 σ = some σ' → lv_has ls 2 [(0, .ref (h 0))] → va_P D vwCl (mw h cI cZ σ) H → va_D A (mw h cI cZ σ) → va_S A s.heap H locs → W p l e R s m args below meth c H locs 0 0 Q (F0 m 0 ls [])), ∀ (σ : MS) (ls : Array Slot) (H : Heap) (locs : List Loc), FM_next_26 ag0 σ = some σ' → lv_has ls 2 [(0, .ref (h 0))] → va_P D vwCl (mw h cI cZ σ) H → va_D A (mw h cI cZ σ) → va_S A s.heap H locs → W p l e R s m args below meth c H locs 0 0 Q (F0 m 26 ls []) := by
    intro ag0 hag0 σ ls H locs hf hl hP hD hS
    unfold FM_next_26 at hf
    refine lv_aload_n hx hb dX9_next_26 rfl (lv_at hl 0 rfl) ?_
    refine lv_dup hx hb dX9_next_27 rfl ?_
    refine Mg_14 S hin hK hP f84 dX9_next_28 ?_
    refine lv_iconst (v := 1) hx hb dX9_next_31 (by decide) ?_
    refine lv_iadd hx hb dX9_next_32 ?_
    refine Mp_14 S hin hK hP hD hS f84 dX9_next_33 (fun H locs hP hD hS => ?_)
    obtain ⟨σ28, eσ28, hf⟩ := nm_some hf
    rw [← eσ28] at hP hD
    refine lv_goto (tgt := 0) hx hb dX9_next_36 (by decide) ?_
    exact hag0 _ _ _ _ hf (lv_sub hl [0] rfl) hP hD hS
  have b196 : ∀ (σ : MS) (ls : Array Slot) (H : Heap) (locs : List Loc), FM_next_196 σ = some σ' → lv_has ls 2 [(0, .ref (h 0))] → va_P D vwCl (mw h cI cZ σ) H → va_D A (mw h cI cZ σ) → va_S A s.heap H locs → W p l e R s m args below meth c H locs 0 0 Q (F0 m 196 ls []) := by
    intro σ ls H locs hf hl hP hD hS
    unfold FM_next_196 at hf
    refine lv_aload_n hx hb dX9_next_196 rfl (lv_at hl 0 rfl) ?_
    refine lv_aload_n hx hb dX9_next_197 rfl (lv_at hl 0 rfl) ?_
    refine Mg_14 S hin hK hP f84 dX9_next_198 ?_
    refine Mp_17 S hin hK hP hD hS f102 dX9_next_201 (fun H locs hP hD hS => ?_)
    obtain ⟨σ27, eσ27, hf⟩ := nm_some hf
    rw [← eσ27] at hP hD
    exact hre _ _ _ _ _ hf hP hD hS dX9_next_204
  have b193 : ∀ (σ : MS) (s0 : Int32) (ls : Array Slot) (H : Heap) (locs : List Loc), FM_next_193 σ s0 = some σ' → lv_has ls 2 [(0, .ref (h 0))] → va_P D vwCl (mw h cI cZ σ) H → va_D A (mw h cI cZ σ) → va_S A s.heap H locs → W p l e R s m args below meth c H locs 0 0 Q (F0 m 193 ls [.int s0, .ref (h 0)]) := by
    intro σ s0 ls H locs hf hl hP hD hS
    unfold FM_next_193 at hf
    refine Mp_15 S hin hK hP hD hS f93 dX9_next_193 (fun H locs hP hD hS => ?_)
    obtain ⟨σ26, eσ26, hf⟩ := nm_some hf
    rw [← eσ26] at hP hD
    exact b196 _ _ _ _ hf (lv_sub hl [0] rfl) hP hD hS
  have b165 : ∀ (σ : MS) (s0 : Int32) (ls : Array Slot) (H : Heap) (locs : List Loc), FM_next_165 σ s0 = some σ' → lv_has ls 2 [(0, .ref (h 0))] → va_P D vwCl (mw h cI cZ σ) H → va_D A (mw h cI cZ σ) → va_S A s.heap H locs → W p l e R s m args below meth c H locs 0 0 Q (F0 m 165 ls [.int s0, .ref (h 0)]) := by
    intro σ s0 ls H locs hf hl hP hD hS
    unfold FM_next_165 at hf
    refine Mp_15 S hin hK hP hD hS f93 dX9_next_165 (fun H locs hP hD hS => ?_)
    obtain ⟨σ25, eσ25, hf⟩ := nm_some hf
    rw [← eσ25] at hP hD
    refine lv_goto (tgt := 196) hx hb dX9_next_168 (by decide) ?_
    exact b196 _ _ _ _ hf (lv_sub hl [0] rfl) hP hD hS
  have b119 : ∀ (n : Nat), ∀ (σ : MS) (ls : Array Slot) (H : Heap) (locs : List Loc), FM_next_119 n σ = some σ' → lv_has ls 2 [(0, .ref (h 0))] → va_P D vwCl (mw h cI cZ σ) H → va_D A (mw h cI cZ σ) → va_S A s.heap H locs → W p l e R s m args below meth c H locs 0 0 Q (F0 m 119 ls []) := by
    intro n
    induction n with
    | zero => intro σ ls H locs hf; exact absurd hf (by simp [FM_next_119])
    | succ n ih =>
      intro σ ls H locs hf hl hP hD hS
      rw [FM_next_119] at hf
      refine lv_aload_n hx hb dX9_next_119 rfl (lv_at hl 0 rfl) ?_
      refine lv_aload_n hx hb dX9_next_120 rfl (lv_at hl 0 rfl) ?_
      refine Mg_14 S hin hK hP f84 dX9_next_121 ?_
      obtain ⟨r20, hr20, hf⟩ := bi_some hf
      refine kc_v (ci := 8) (q0 := 0) (n := 1) S hRf hRl hK hA hP hD hS hl [.int (σ.1 14)] [] (kM_byteAt l D h cI cZ σ (σ.1 14) r20 hr20) gX9_next_X9_byteAt rfl (by decide +kernel) rfl ⟨by decide, by decide⟩ rfl rfl rfl rfl (Nat.le_of_ble_eq_true rfl) dX9_next_124 (fun H locs hP hD hS => ?_)
      refine W.eq (g2 := F0 m 127 ls [.int r20]) rfl ?_
      obtain ⟨r21, hr21, hf⟩ := bi_some hf
      refine kc_s (n := 1) S hRf hRl hK hA hP hD hS hl [.int r20] [] (kM_isFigure l D _ _ r20 r21 hr21) gX9_next_X9_isFigure rfl (by decide +kernel) rfl ⟨by decide, by decide⟩ rfl (Nat.le_of_ble_eq_true rfl) dX9_next_127 (fun H locs hP hD hS => ?_)
      refine W.eq (g2 := F0 m 130 ls [.int r21]) rfl ?_
      refine lv_if_eq (tgt := 146) hx hb dX9_next_130 (by decide) (fun c22 => ?_) (fun c22 => ?_)
      · have hf := (if_pos c22).symm.trans hf
        refine lv_aload_n hx hb dX9_next_146 rfl (lv_at hl 0 rfl) ?_
        refine lv_aload_n hx hb dX9_next_147 rfl (lv_at hl 0 rfl) ?_
        refine Mg_14 S hin hK hP f84 dX9_next_148 ?_
        refine lv_aload_n hx hb dX9_next_151 rfl (lv_at hl 0 rfl) ?_
        refine Mg_16 S hin hK hP f90 dX9_next_152 ?_
        refine lv_isub hx hb dX9_next_155 ?_
        refine lv_iconst (v := 3) hx hb dX9_next_156 (by decide) ?_
        refine lv_icmp_le (tgt := 164) hx hb dX9_next_157 (by decide) (fun c23 => ?_) (fun c23 => ?_)
        · have hf := (if_pos c23).symm.trans hf
          refine lv_iconst (v := 3) hx hb dX9_next_164 (by decide) ?_
          exact b165 _ _ _ _ _ hf (lv_sub hl [0] rfl) hP hD hS
        · have hf := (if_neg c23).symm.trans hf
          refine lv_iconst (v := 0) hx hb dX9_next_160 (by decide) ?_
          refine lv_goto (tgt := 165) hx hb dX9_next_161 (by decide) ?_
          exact b165 _ _ _ _ _ hf (lv_sub hl [0] rfl) hP hD hS
      · have hf := (if_neg c22).symm.trans hf
        refine lv_aload_n hx hb dX9_next_133 rfl (lv_at hl 0 rfl) ?_
        refine lv_dup hx hb dX9_next_134 rfl ?_
        refine Mg_14 S hin hK hP f84 dX9_next_135 ?_
        refine lv_iconst (v := 1) hx hb dX9_next_138 (by decide) ?_
        refine lv_iadd hx hb dX9_next_139 ?_
        refine Mp_14 S hin hK hP hD hS f84 dX9_next_140 (fun H locs hP hD hS => ?_)
        obtain ⟨σ24, eσ24, hf⟩ := nm_some hf
        rw [← eσ24] at hP hD
        refine lv_goto (tgt := 119) hx hb dX9_next_143 (by decide) ?_
        exact ih _ _ _ _ hf (lv_sub hl [0] rfl) hP hD hS
  have b77 : ∀ (n : Nat), ∀ (σ : MS) (ls : Array Slot) (H : Heap) (locs : List Loc), FM_next_77 n σ = some σ' → lv_has ls 2 [(0, .ref (h 0))] → va_P D vwCl (mw h cI cZ σ) H → va_D A (mw h cI cZ σ) → va_S A s.heap H locs → W p l e R s m args below meth c H locs 0 0 Q (F0 m 77 ls []) := by
    intro n
    induction n with
    | zero => intro σ ls H locs hf; exact absurd hf (by simp [FM_next_77])
    | succ n ih =>
      intro σ ls H locs hf hl hP hD hS
      rw [FM_next_77] at hf
      refine lv_aload_n hx hb dX9_next_77 rfl (lv_at hl 0 rfl) ?_
      refine lv_aload_n hx hb dX9_next_78 rfl (lv_at hl 0 rfl) ?_
      refine Mg_14 S hin hK hP f84 dX9_next_79 ?_
      obtain ⟨r15, hr15, hf⟩ := bi_some hf
      refine kc_v (ci := 8) (q0 := 0) (n := 1) S hRf hRl hK hA hP hD hS hl [.int (σ.1 14)] [] (kM_byteAt l D h cI cZ σ (σ.1 14) r15 hr15) gX9_next_X9_byteAt rfl (by decide +kernel) rfl ⟨by decide, by decide⟩ rfl rfl rfl rfl (Nat.le_of_ble_eq_true rfl) dX9_next_82 (fun H locs hP hD hS => ?_)
      refine W.eq (g2 := F0 m 85 ls [.int r15]) rfl ?_
      obtain ⟨r16, hr16, hf⟩ := bi_some hf
      refine kc_s (n := 1) S hRf hRl hK hA hP hD hS hl [.int r15] [] (kM_isLetter l D _ _ r15 r16 hr16) gX9_next_X9_isLetter rfl (by decide +kernel) rfl ⟨by decide, by decide⟩ rfl (Nat.le_of_ble_eq_true rfl) dX9_next_85 (fun H locs hP hD hS => ?_)
      refine W.eq (g2 := F0 m 88 ls [.int r16]) rfl ?_
      refine lv_if_eq (tgt := 104) hx hb dX9_next_88 (by decide) (fun c17 => ?_) (fun c17 => ?_)
      · have hf := (if_pos c17).symm.trans hf
        refine lv_aload_n hx hb dX9_next_104 rfl (lv_at hl 0 rfl) ?_
        refine lv_iconst (v := 2) hx hb dX9_next_105 (by decide) ?_
        refine Mp_15 S hin hK hP hD hS f93 dX9_next_106 (fun H locs hP hD hS => ?_)
        obtain ⟨σ18, eσ18, hf⟩ := nm_some hf
        rw [← eσ18] at hP hD
        refine lv_goto (tgt := 196) hx hb dX9_next_109 (by decide) ?_
        exact b196 _ _ _ _ hf (lv_sub hl [0] rfl) hP hD hS
      · have hf := (if_neg c17).symm.trans hf
        refine lv_aload_n hx hb dX9_next_91 rfl (lv_at hl 0 rfl) ?_
        refine lv_dup hx hb dX9_next_92 rfl ?_
        refine Mg_14 S hin hK hP f84 dX9_next_93 ?_
        refine lv_iconst (v := 1) hx hb dX9_next_96 (by decide) ?_
        refine lv_iadd hx hb dX9_next_97 ?_
        refine Mp_14 S hin hK hP hD hS f84 dX9_next_98 (fun H locs hP hD hS => ?_)
        obtain ⟨σ19, eσ19, hf⟩ := nm_some hf
        rw [← eσ19] at hP hD
        refine lv_goto (tgt := 77) hx hb dX9_next_101 (by decide) ?_
        exact ih _ _ _ _ hf (lv_sub hl [0] rfl) hP hD hS
  have b0 : ∀ (n : Nat), ∀ (σ : MS) (ls : Array Slot) (H : Heap) (locs : List Loc), FM_next_0 n σ = some σ' → lv_has ls 2 [(0, .ref (h 0))] → va_P D vwCl (mw h cI cZ σ) H → va_D A (mw h cI cZ σ) → va_S A s.heap H locs → W p l e R s m args below meth c H locs 0 0 Q (F0 m 0 ls []) := by
    intro n
    induction n with
    | zero => intro σ ls H locs hf; exact absurd hf (by simp [FM_next_0])
    | succ n ih =>
      intro σ ls H locs hf hl hP hD hS
      rw [FM_next_0] at hf
      refine lv_aload_n hx hb dX9_next_0 rfl (lv_at hl 0 rfl) ?_
      refine lv_aload_n hx hb dX9_next_1 rfl (lv_at hl 0 rfl) ?_
      refine Mg_14 S hin hK hP f84 dX9_next_2 ?_
      obtain ⟨r1, hr1, hf⟩ := bi_some hf
      refine kc_v (ci := 8) (q0 := 0) (n := 1) S hRf hRl hK hA hP hD hS hl [.int (σ.1 14)] [] (kM_byteAt l D h cI cZ σ (σ.1 14) r1 hr1) gX9_next_X9_byteAt rfl (by decide +kernel) rfl ⟨by decide, by decide⟩ rfl rfl rfl rfl (Nat.le_of_ble_eq_true rfl) dX9_next_5 (fun H locs hP hD hS => ?_)
      refine W.eq (g2 := F0 m 8 ls [.int r1]) rfl ?_
      refine lv_bipush (v := 32) hx hb dX9_next_8 (by decide) ?_
      refine lv_icmp_eq (tgt := 26) hx hb dX9_next_10 (by decide) (fun c2 => ?_) (fun c2 => ?_)
      · have hf := (if_pos c2).symm.trans hf
        exact b26 (FM_next_0 n) ih _ _ _ _ hf (lv_sub hl [0] rfl) hP hD hS
      · have hf := (if_neg c2).symm.trans hf
        refine lv_aload_n hx hb dX9_next_13 rfl (lv_at hl 0 rfl) ?_
        refine lv_aload_n hx hb dX9_next_14 rfl (lv_at hl 0 rfl) ?_
        refine Mg_14 S hin hK hP f84 dX9_next_15 ?_
        obtain ⟨r3, hr3, hf⟩ := bi_some hf
        refine kc_v (ci := 8) (q0 := 0) (n := 1) S hRf hRl hK hA hP hD hS hl [.int (σ.1 14)] [] (kM_byteAt l D h cI cZ σ (σ.1 14) r3 hr3) gX9_next_X9_byteAt rfl (by decide +kernel) rfl ⟨by decide, by decide⟩ rfl rfl rfl rfl (Nat.le_of_ble_eq_true rfl) dX9_next_18 (fun H locs hP hD hS => ?_)
        refine W.eq (g2 := F0 m 21 ls [.int r3]) rfl ?_
        refine lv_bipush (v := 10) hx hb dX9_next_21 (by decide) ?_
        refine lv_icmp_ne (tgt := 39) hx hb dX9_next_23 (by decide) (fun c4 => ?_) (fun c4 => ?_)
        · have hf := (if_neg c4).symm.trans hf
          refine lv_aload_n hx hb dX9_next_39 rfl (lv_at hl 0 rfl) ?_
          refine lv_aload_n hx hb dX9_next_40 rfl (lv_at hl 0 rfl) ?_
          refine Mg_14 S hin hK hP f84 dX9_next_41 ?_
          refine Mp_16 S hin hK hP hD hS f90 dX9_next_44 (fun H locs hP hD hS => ?_)
          obtain ⟨σ5, eσ5, hf⟩ := nm_some hf
          rw [← eσ5] at hP hD
          refine lv_aload_n hx hb dX9_next_47 rfl (lv_at hl 0 rfl) ?_
          refine lv_aload_n hx hb dX9_next_48 rfl (lv_at hl 0 rfl) ?_
          refine Mg_14 S hin hK hP f84 dX9_next_49 ?_
          obtain ⟨r6, hr6, hf⟩ := bi_some hf
          refine kc_v (ci := 8) (q0 := 0) (n := 1) S hRf hRl hK hA hP hD hS hl [.int (σ5.1 14)] [] (kM_byteAt l D h cI cZ σ5 (σ5.1 14) r6 hr6) gX9_next_X9_byteAt rfl (by decide +kernel) rfl ⟨by decide, by decide⟩ rfl rfl rfl rfl (Nat.le_of_ble_eq_true rfl) dX9_next_52 (fun H locs hP hD hS => ?_)
          refine W.eq (g2 := F0 m 55 ls [.int r6]) rfl ?_
          refine lv_istore_n (lv' := [(1, .int r6), (0, .ref (h 0))]) hx hb dX9_next_55 rfl hl (by decide) rfl (fun ls hl => ?_)
          refine lv_iload_n hx hb dX9_next_56 rfl (lv_at hl 0 rfl) ?_
          refine lv_ldc (v := (-1000000)) hx hb hown c83 dX9_next_57 ?_
          refine lv_icmp_ne (tgt := 70) hx hb dX9_next_59 (by decide) (fun c7 => ?_) (fun c7 => ?_)
          · have hf := (if_neg c7).symm.trans hf
            refine lv_iload_n hx hb dX9_next_70 rfl (lv_at hl 0 rfl) ?_
            obtain ⟨r8, hr8, hf⟩ := bi_some hf
            refine kc_s (n := 1) S hRf hRl hK hA hP hD hS hl [.int r6] [] (kM_isLetter l D _ _ r6 r8 hr8) gX9_next_X9_isLetter rfl (by decide +kernel) rfl ⟨by decide, by decide⟩ rfl (Nat.le_of_ble_eq_true rfl) dX9_next_71 (fun H locs hP hD hS => ?_)
            refine W.eq (g2 := F0 m 74 ls [.int r8]) rfl ?_
            refine lv_if_eq (tgt := 112) hx hb dX9_next_74 (by decide) (fun c9 => ?_) (fun c9 => ?_)
            · have hf := (if_pos c9).symm.trans hf
              refine lv_iload_n hx hb dX9_next_112 rfl (lv_at hl 0 rfl) ?_
              obtain ⟨r10, hr10, hf⟩ := bi_some hf
              refine kc_s (n := 1) S hRf hRl hK hA hP hD hS hl [.int r6] [] (kM_isFigure l D _ _ r6 r10 hr10) gX9_next_X9_isFigure rfl (by decide +kernel) rfl ⟨by decide, by decide⟩ rfl (Nat.le_of_ble_eq_true rfl) dX9_next_113 (fun H locs hP hD hS => ?_)
              refine W.eq (g2 := F0 m 116 ls [.int r10]) rfl ?_
              refine lv_if_eq (tgt := 171) hx hb dX9_next_116 (by decide) (fun c11 => ?_) (fun c11 => ?_)
              · have hf := (if_pos c11).symm.trans hf
                refine lv_aload_n hx hb dX9_next_171 rfl (lv_at hl 1 rfl) ?_
                refine lv_dup hx hb dX9_next_172 rfl ?_
                refine Mg_14 S hin hK hP f84 dX9_next_173 ?_
                refine lv_iconst (v := 1) hx hb dX9_next_176 (by decide) ?_
                refine lv_iadd hx hb dX9_next_177 ?_
                refine Mp_14 S hin hK hP hD hS f84 dX9_next_178 (fun H locs hP hD hS => ?_)
                obtain ⟨σ12, eσ12, hf⟩ := nm_some hf
                rw [← eσ12] at hP hD
                refine lv_aload_n hx hb dX9_next_181 rfl (lv_at hl 1 rfl) ?_
                refine lv_iload_n hx hb dX9_next_182 rfl (lv_at hl 0 rfl) ?_
                refine lv_bipush (v := 59) hx hb dX9_next_183 (by decide) ?_
                refine lv_icmp_ne (tgt := 192) hx hb dX9_next_185 (by decide) (fun c13 => ?_) (fun c13 => ?_)
                · have hf := (if_neg c13).symm.trans hf
                  refine lv_iconst (v := 0) hx hb dX9_next_192 (by decide) ?_
                  exact b193 _ _ _ _ _ hf (lv_sub hl [1] rfl) hP hD hS
                · have hf := (if_pos c13).symm.trans hf
                  refine lv_iconst (v := 4) hx hb dX9_next_188 (by decide) ?_
                  refine lv_goto (tgt := 193) hx hb dX9_next_189 (by decide) ?_
                  exact b193 _ _ _ _ _ hf (lv_sub hl [1] rfl) hP hD hS
              · have hf := (if_neg c11).symm.trans hf
                exact b119 fuelN _ _ _ _ hf (lv_sub hl [1] rfl) hP hD hS
            · have hf := (if_neg c9).symm.trans hf
              exact b77 fuelN _ _ _ _ hf (lv_sub hl [1] rfl) hP hD hS
          · have hf := (if_pos c7).symm.trans hf
            refine lv_aload_n hx hb dX9_next_62 rfl (lv_at hl 1 rfl) ?_
            refine lv_iconst (v := 1) hx hb dX9_next_63 (by decide) ?_
            refine Mp_15 S hin hK hP hD hS f93 dX9_next_64 (fun H locs hP hD hS => ?_)
            obtain ⟨σ14, eσ14, hf⟩ := nm_some hf
            rw [← eσ14] at hP hD
            refine lv_goto (tgt := 196) hx hb dX9_next_67 (by decide) ?_
            exact b196 _ _ _ _ hf (lv_sub hl [1] rfl) hP hD hS
        · have hf := (if_pos c4).symm.trans hf
          exact b26 (FM_next_0 n) ih _ _ _ _ hf (lv_sub hl [0] rfl) hP hD hS
  unfold FM_next at hf
  exact b0 fuelN _ _ _ _ hf (lv_sub hl [0] rfl) hP hD hS
def FM_begin (σ : MS) : Option MS :=
  nm (setF σ 13 (σ.1 11)) fun (σ1 : MS) => nm (setF σ1 11 0) fun (σ2 : MS) => nm (setF σ2 14 0) fun (σ3 : MS) => nm (setF σ3 18 0) fun (σ4 : MS) => Option.bind (FM_next σ4) fun (σ6 : MS) => some σ6
set_option maxHeartbeats 4000000 in
set_option maxRecDepth 100000 in
theorem kM_begin (l : Launch) (D : va_G) (h : Nat → Nat) (cI cZ : ClassId) (σ : MS)  (σ' : MS) (hf : FM_begin σ = some σ') : KK l D [(cI, .int), (cZ, .boolean)] yX9_begin wsX9_begin 2 42 [.ref (h 0)] (mw h cI cZ σ) none (mw h cI cZ σ') := by
  refine KK.ofV (own := RX9) (cc := cX9_begin) (maxL := 1) (by decide) rfl rfl (Nat.le_of_ble_eq_true rfl) ?_
  intro p e s m args below meth c R Q A ls S hRf hRl hK hA hP hD hS hl hret
  obtain ⟨hx, hb, hml, hown, hts⟩ := id S
  have hin : ∀ w ∈ wsX90, w ∈ wsX9_begin := fun w hw => List.mem_cons_of_mem _ (List.mem_append_right _ hw)
  have f74 := hts (.fieldLink RX9 74 "PenniesAwayModel" "taped" "I") (by decide +kernel)
  have f80 := hts (.fieldLink RX9 80 "PenniesAwayModel" "length" "I") (by decide +kernel)
  have f84 := hts (.fieldLink RX9 84 "PenniesAwayModel" "cursor" "I") (by decide +kernel)
  have f105 := hts (.fieldLink RX9 105 "PenniesAwayModel" "fault" "I") (by decide +kernel)
  have hl : lv_has ls 1 [(0, .ref (h 0))] := hl
  have hre : ∀ (σx : MS) (pc : Nat) (ls : Array Slot) (H : Heap) (locs : List Loc), (some σx : Option MS) = some σ' → va_P D vwCl (mw h cI cZ σx) H → va_D A (mw h cI cZ σx) → va_S A s.heap H locs → decode cX9_begin pc = .ok (.return_, 1) → W p l e R s m args below meth c H locs 0 0 Q (F0 m pc ls []) := by intro σx pc ls H locs he; cases he; exact hret pc ls H locs
  unfold FM_begin at hf
  refine lv_aload_n hx hb dX9_begin_0 rfl (lv_at hl 0 rfl) ?_
  refine lv_aload_n hx hb dX9_begin_1 rfl (lv_at hl 0 rfl) ?_
  refine Mg_11 S hin hK hP f74 dX9_begin_2 ?_
  refine Mp_13 S hin hK hP hD hS f80 dX9_begin_5 (fun H locs hP hD hS => ?_)
  obtain ⟨σ1, eσ1, hf⟩ := nm_some hf
  rw [← eσ1] at hP hD
  refine lv_aload_n hx hb dX9_begin_8 rfl (lv_at hl 0 rfl) ?_
  refine lv_iconst (v := 0) hx hb dX9_begin_9 (by decide) ?_
  refine Mp_11 S hin hK hP hD hS f74 dX9_begin_10 (fun H locs hP hD hS => ?_)
  obtain ⟨σ2, eσ2, hf⟩ := nm_some hf
  rw [← eσ2] at hP hD
  refine lv_aload_n hx hb dX9_begin_13 rfl (lv_at hl 0 rfl) ?_
  refine lv_iconst (v := 0) hx hb dX9_begin_14 (by decide) ?_
  refine Mp_14 S hin hK hP hD hS f84 dX9_begin_15 (fun H locs hP hD hS => ?_)
  obtain ⟨σ3, eσ3, hf⟩ := nm_some hf
  rw [← eσ3] at hP hD
  refine lv_aload_n hx hb dX9_begin_18 rfl (lv_at hl 0 rfl) ?_
  refine lv_iconst (v := 0) hx hb dX9_begin_19 (by decide) ?_
  refine Mp_18 S hin hK hP hD hS f105 dX9_begin_20 (fun H locs hP hD hS => ?_)
  obtain ⟨σ4, eσ4, hf⟩ := nm_some hf
  rw [← eσ4] at hP hD
  refine lv_aload_n hx hb dX9_begin_23 rfl (lv_at hl 0 rfl) ?_
  obtain ⟨σ6, hr5, hf⟩ := bi_some hf
  refine kc_v (ci := 8) (q0 := 0) (n := 0) S hRf hRl hK hA hP hD hS hl [] [] (kM_next l D h cI cZ σ4  σ6 hr5) gX9_begin_X9_next rfl (by decide +kernel) rfl ⟨by decide, by decide⟩ rfl rfl rfl rfl (Nat.le_of_ble_eq_true rfl) dX9_begin_24 (fun H locs hP hD hS => ?_)
  refine W.eq (g2 := F0 m 27 ls []) rfl ?_
  exact hre _ _ _ _ _ hf hP hD hS dX9_begin_27
def FM_bad (σ : MS) (a1 : Int32) : Option MS :=
  if (σ.1 18) = 0 then (nm (setF σ 18 a1) fun (σ2 : MS) => nm (setF σ2 19 (σ2.1 16)) fun (σ3 : MS) => some σ3) else (some σ)
set_option maxHeartbeats 4000000 in
set_option maxRecDepth 100000 in
theorem kM_bad (l : Launch) (D : va_G) (h : Nat → Nat) (cI cZ : ClassId) (σ : MS) (a1 : Int32)  (σ' : MS) (hf : FM_bad σ a1 = some σ') : KK l D [(cI, .int), (cZ, .boolean)] yX9_bad wsX9_bad 0 0 [.ref (h 0), .int a1] (mw h cI cZ σ) none (mw h cI cZ σ') := by
  refine KK.ofV (own := RX9) (cc := cX9_bad) (maxL := 2) (by decide) rfl rfl (Nat.le_of_ble_eq_true rfl) ?_
  intro p e s m args below meth c R Q A ls S hRf hRl hK hA hP hD hS hl hret
  obtain ⟨hx, hb, hml, hown, hts⟩ := id S
  have hin : ∀ w ∈ wsX90, w ∈ wsX9_bad := fun w hw => List.mem_cons_of_mem _ (List.mem_append_right _ hw)
  have f105 := hts (.fieldLink RX9 105 "PenniesAwayModel" "fault" "I") (by decide +kernel)
  have f90 := hts (.fieldLink RX9 90 "PenniesAwayModel" "start" "I") (by decide +kernel)
  have f111 := hts (.fieldLink RX9 111 "PenniesAwayModel" "faultAt" "I") (by decide +kernel)
  have hl : lv_has ls 2 [(0, .ref (h 0)), (1, .int a1)] := hl
  have hre : ∀ (σx : MS) (pc : Nat) (ls : Array Slot) (H : Heap) (locs : List Loc), (some σx : Option MS) = some σ' → va_P D vwCl (mw h cI cZ σx) H → va_D A (mw h cI cZ σx) → va_S A s.heap H locs → decode cX9_bad pc = .ok (.return_, 1) → W p l e R s m args below meth c H locs 0 0 Q (F0 m pc ls []) := by intro σx pc ls H locs he; cases he; exact hret pc ls H locs
  unfold FM_bad at hf
  refine lv_aload_n hx hb dX9_bad_0 rfl (lv_at hl 0 rfl) ?_
  refine Mg_18 S hin hK hP f105 dX9_bad_1 ?_
  refine lv_if_ne (tgt := 20) hx hb dX9_bad_4 (by decide) (fun c1 => ?_) (fun c1 => ?_)
  · have hf := (if_neg c1).symm.trans hf
    exact hre _ _ _ _ _ hf hP hD hS dX9_bad_20
  · have hf := (if_pos c1).symm.trans hf
    refine lv_aload_n hx hb dX9_bad_7 rfl (lv_at hl 0 rfl) ?_
    refine lv_iload_n hx hb dX9_bad_8 rfl (lv_at hl 1 rfl) ?_
    refine Mp_18 S hin hK hP hD hS f105 dX9_bad_9 (fun H locs hP hD hS => ?_)
    obtain ⟨σ2, eσ2, hf⟩ := nm_some hf
    rw [← eσ2] at hP hD
    refine lv_aload_n hx hb dX9_bad_12 rfl (lv_at hl 0 rfl) ?_
    refine lv_aload_n hx hb dX9_bad_13 rfl (lv_at hl 0 rfl) ?_
    refine Mg_16 S hin hK hP f90 dX9_bad_14 ?_
    refine Mp_19 S hin hK hP hD hS f111 dX9_bad_17 (fun H locs hP hD hS => ?_)
    obtain ⟨σ3, eσ3, hf⟩ := nm_some hf
    rw [← eσ3] at hP hD
    exact hre _ _ _ _ _ hf hP hD hS dX9_bad_20
def FM_must_9 (σ : MS) : Option MS :=
  if (σ.1 18) = 0 then (Option.bind (FM_next σ) fun (σ6 : MS) => some σ6) else (some σ)
def FM_must (σ : MS) (a1 : Int32) : Option MS :=
  if a1 = 0 then (Option.bind (FM_bad σ 1) fun (σ3 : MS) => FM_must_9 σ3) else (FM_must_9 σ)
set_option maxHeartbeats 4000000 in
set_option maxRecDepth 100000 in
theorem kM_must (l : Launch) (D : va_G) (h : Nat → Nat) (cI cZ : ClassId) (σ : MS) (a1 : Int32)  (σ' : MS) (hf : FM_must σ a1 = some σ') : KK l D [(cI, .int), (cZ, .boolean)] yX9_must wsX9_must 2 42 [.ref (h 0), .int a1] (mw h cI cZ σ) none (mw h cI cZ σ') := by
  refine KK.ofV (own := RX9) (cc := cX9_must) (maxL := 2) (by decide) rfl rfl (Nat.le_of_ble_eq_true rfl) ?_
  intro p e s m args below meth c R Q A ls S hRf hRl hK hA hP hD hS hl hret
  obtain ⟨hx, hb, hml, hown, hts⟩ := id S
  have hin : ∀ w ∈ wsX90, w ∈ wsX9_must := fun w hw => List.mem_cons_of_mem _ (List.mem_append_right _ hw)
  have f105 := hts (.fieldLink RX9 105 "PenniesAwayModel" "fault" "I") (by decide +kernel)
  have hl : lv_has ls 2 [(0, .ref (h 0)), (1, .int a1)] := hl
  have hre : ∀ (σx : MS) (pc : Nat) (ls : Array Slot) (H : Heap) (locs : List Loc), (some σx : Option MS) = some σ' → va_P D vwCl (mw h cI cZ σx) H → va_D A (mw h cI cZ σx) → va_S A s.heap H locs → decode cX9_must pc = .ok (.return_, 1) → W p l e R s m args below meth c H locs 0 0 Q (F0 m pc ls []) := by intro σx pc ls H locs he; cases he; exact hret pc ls H locs
  have b9 : ∀ (σ : MS) (ls : Array Slot) (H : Heap) (locs : List Loc), FM_must_9 σ = some σ' → lv_has ls 2 [(0, .ref (h 0))] → va_P D vwCl (mw h cI cZ σ) H → va_D A (mw h cI cZ σ) → va_S A s.heap H locs → W p l e R s m args below meth c H locs 0 0 Q (F0 m 9 ls []) := by
    intro σ ls H locs hf hl hP hD hS
    unfold FM_must_9 at hf
    refine lv_aload_n hx hb dX9_must_9 rfl (lv_at hl 0 rfl) ?_
    refine Mg_18 S hin hK hP f105 dX9_must_10 ?_
    refine lv_if_ne (tgt := 20) hx hb dX9_must_13 (by decide) (fun c4 => ?_) (fun c4 => ?_)
    · have hf := (if_neg c4).symm.trans hf
      exact hre _ _ _ _ _ hf hP hD hS dX9_must_20
    · have hf := (if_pos c4).symm.trans hf
      refine lv_aload_n hx hb dX9_must_16 rfl (lv_at hl 0 rfl) ?_
      obtain ⟨σ6, hr5, hf⟩ := bi_some hf
      refine kc_v (ci := 8) (q0 := 0) (n := 0) S hRf hRl hK hA hP hD hS hl [] [] (kM_next l D h cI cZ σ  σ6 hr5) gX9_must_X9_next rfl (by decide +kernel) rfl ⟨by decide, by decide⟩ rfl rfl rfl rfl (Nat.le_of_ble_eq_true rfl) dX9_must_17 (fun H locs hP hD hS => ?_)
      refine W.eq (g2 := F0 m 20 ls []) rfl ?_
      exact hre _ _ _ _ _ hf hP hD hS dX9_must_20
  unfold FM_must at hf
  refine lv_iload_n hx hb dX9_must_0 rfl (lv_at hl 1 rfl) ?_
  refine lv_if_ne (tgt := 9) hx hb dX9_must_1 (by decide) (fun c1 => ?_) (fun c1 => ?_)
  · have hf := (if_neg c1).symm.trans hf
    exact b9 _ _ _ _ hf (lv_sub hl [0] rfl) hP hD hS
  · have hf := (if_pos c1).symm.trans hf
    refine lv_aload_n hx hb dX9_must_4 rfl (lv_at hl 0 rfl) ?_
    refine lv_iconst (v := 1) hx hb dX9_must_5 (by decide) ?_
    obtain ⟨σ3, hr2, hf⟩ := bi_some hf
    refine kc_v (ci := 8) (q0 := 0) (n := 1) S hRf hRl hK hA hP hD hS hl [.int 1] [] (kM_bad l D h cI cZ σ 1 σ3 hr2) gX9_must_X9_bad rfl (by decide +kernel) rfl ⟨by decide, by decide⟩ rfl rfl rfl rfl (Nat.le_of_ble_eq_true rfl) dX9_must_6 (fun H locs hP hD hS => ?_)
    refine W.eq (g2 := F0 m 9 ls []) rfl ?_
    exact b9 _ _ _ _ hf (lv_sub hl [0] rfl) hP hD hS
def FM_name_56 (σ : MS) (l1 : Int64) : Option Int64 :=
  if (σ.1 18) = 0 then (some l1) else (some 0)
def FM_name_7  : Nat → MS → Int64 → Int32 → Option Int64
  | 0, _, _, _ => none
  | n + 1, σ, l1, l3 => if (σ.1 17) ≤ l3 then (FM_name_56 σ l1) else (if (σ.1 15) = 2 then (if 8 ≤ ((σ.1 17) - (σ.1 16)) then (FM_name_56 σ l1) else (gd (¬ ((l3 : Int32) < 0 ∨ 500 ≤ Int32.toNatClampNeg l3)) (nm ((l1 <<< (Int32.toInt64 8 &&& 63)) ||| (Int32.toInt64 (σ.2 10 (Int32.toNatClampNeg l3)))) fun (x6 : Int64) => nm (l3 + 1) fun (x7 : Int32) => (FM_name_7 n) σ x6 x7))) else (FM_name_56 σ l1))
def FM_name (σ : MS) : Option Int64 :=
  nm (σ.1 16) fun (x1 : Int32) => FM_name_7 fuelN σ 0 x1
set_option maxHeartbeats 4000000 in
set_option maxRecDepth 100000 in
theorem kM_name (l : Launch) (D : va_G) (h : Nat → Nat) (cI cZ : ClassId) (σ : MS) (r : Int64) (hf : FM_name σ = some r) : KK l D [(cI, .int), (cZ, .boolean)] yX9_name wsX9_name 0 0 [.ref (h 0)] (mw h cI cZ σ) (some (.long r)) (mw h cI cZ σ) := by
  refine KK.ofL (own := RX9) (cc := cX9_name) (maxL := 4) (by decide) rfl rfl (Nat.le_of_ble_eq_true rfl) ?_
  intro p e s m args below meth c R Q A ls S hRf hRl hK hA hP hD hS hl hret
  obtain ⟨hx, hb, hml, hown, hts⟩ := id S
  have hin : ∀ w ∈ wsX90, w ∈ wsX9_name := fun w hw => List.mem_cons_of_mem _ (List.mem_append_right _ hw)
  have f90 := hts (.fieldLink RX9 90 "PenniesAwayModel" "start" "I") (by decide +kernel)
  have f102 := hts (.fieldLink RX9 102 "PenniesAwayModel" "till" "I") (by decide +kernel)
  have f93 := hts (.fieldLink RX9 93 "PenniesAwayModel" "token" "I") (by decide +kernel)
  have f28 := hts (.fieldLink RX9 28 "PenniesAwayModel" "tape" "[I") (by decide +kernel)
  have f105 := hts (.fieldLink RX9 105 "PenniesAwayModel" "fault" "I") (by decide +kernel)
  have hl : lv_has ls 4 [(0, .ref (h 0))] := hl
  have hre : ∀ (x : Int64) (pc : Nat) (ls : Array Slot) (H : Heap) (locs : List Loc), (some x : Option Int64) = some r → va_P D vwCl (mw h cI cZ σ) H → va_D A (mw h cI cZ σ) → va_S A s.heap H locs → decode cX9_name pc = .ok (.lreturn, 1) → W p l e R s m args below meth c H locs 0 0 Q (F0 m pc ls [.long x]) := by intro x pc ls H locs he; cases he; exact hret pc ls H locs
  have b56 : ∀ (l1 : Int64) (ls : Array Slot) (H : Heap) (locs : List Loc), FM_name_56 σ l1 = some r → lv_has ls 4 [(0, .ref (h 0)), (1, .long l1)] → va_P D vwCl (mw h cI cZ σ) H → va_D A (mw h cI cZ σ) → va_S A s.heap H locs → W p l e R s m args below meth c H locs 0 0 Q (F0 m 56 ls []) := by
    intro l1 ls H locs hf hl hP hD hS
    unfold FM_name_56 at hf
    refine lv_aload_n hx hb dX9_name_56 rfl (lv_at hl 0 rfl) ?_
    refine Mg_18 S hin hK hP f105 dX9_name_57 ?_
    refine lv_if_ne (tgt := 67) hx hb dX9_name_60 (by decide) (fun c8 => ?_) (fun c8 => ?_)
    · have hf := (if_neg c8).symm.trans hf
      refine lv_lconst (v := 0) hx hb dX9_name_67 (by decide) ?_
      exact hre _ _ _ _ _ hf hP hD hS dX9_name_68
    · have hf := (if_pos c8).symm.trans hf
      refine lv_lload_n hx hb dX9_name_63 rfl (lv_at hl 1 rfl) ?_
      refine lv_goto (tgt := 68) hx hb dX9_name_64 (by decide) ?_
      exact hre _ _ _ _ _ hf hP hD hS dX9_name_68
  have b7 : ∀ (n : Nat), ∀ (l1 : Int64) (l3 : Int32) (ls : Array Slot) (H : Heap) (locs : List Loc), FM_name_7 n σ l1 l3 = some r → lv_has ls 4 [(0, .ref (h 0)), (1, .long l1), (3, .int l3)] → va_P D vwCl (mw h cI cZ σ) H → va_D A (mw h cI cZ σ) → va_S A s.heap H locs → W p l e R s m args below meth c H locs 0 0 Q (F0 m 7 ls []) := by
    intro n
    induction n with
    | zero => intro l1 l3 ls H locs hf; exact absurd hf (by simp [FM_name_7])
    | succ n ih =>
      intro l1 l3 ls H locs hf hl hP hD hS
      rw [FM_name_7] at hf
      refine lv_iload_n hx hb dX9_name_7 rfl (lv_at hl 2 rfl) ?_
      refine lv_aload_n hx hb dX9_name_8 rfl (lv_at hl 0 rfl) ?_
      refine Mg_17 S hin hK hP f102 dX9_name_9 ?_
      refine lv_icmp_ge (tgt := 56) hx hb dX9_name_12 (by decide) (fun c2 => ?_) (fun c2 => ?_)
      · have hf := (if_pos c2).symm.trans hf
        exact b56 _ _ _ _ hf (lv_sub hl [0, 1] rfl) hP hD hS
      · have hf := (if_neg c2).symm.trans hf
        refine lv_aload_n hx hb dX9_name_15 rfl (lv_at hl 0 rfl) ?_
        refine Mg_15 S hin hK hP f93 dX9_name_16 ?_
        refine lv_iconst (v := 2) hx hb dX9_name_19 (by decide) ?_
        refine lv_icmp_ne (tgt := 56) hx hb dX9_name_20 (by decide) (fun c3 => ?_) (fun c3 => ?_)
        · have hf := (if_neg c3).symm.trans hf
          exact b56 _ _ _ _ hf (lv_sub hl [0, 1] rfl) hP hD hS
        · have hf := (if_pos c3).symm.trans hf
          refine lv_aload_n hx hb dX9_name_23 rfl (lv_at hl 0 rfl) ?_
          refine Mg_17 S hin hK hP f102 dX9_name_24 ?_
          refine lv_aload_n hx hb dX9_name_27 rfl (lv_at hl 0 rfl) ?_
          refine Mg_16 S hin hK hP f90 dX9_name_28 ?_
          refine lv_isub hx hb dX9_name_31 ?_
          refine lv_bipush (v := 8) hx hb dX9_name_32 (by decide) ?_
          refine lv_icmp_ge (tgt := 56) hx hb dX9_name_34 (by decide) (fun c4 => ?_) (fun c4 => ?_)
          · have hf := (if_pos c4).symm.trans hf
            exact b56 _ _ _ _ hf (lv_sub hl [0, 1] rfl) hP hD hS
          · have hf := (if_neg c4).symm.trans hf
            refine lv_lload_n hx hb dX9_name_37 rfl (lv_at hl 1 rfl) ?_
            refine lv_bipush (v := 8) hx hb dX9_name_38 (by decide) ?_
            refine lv_lshl hx hb dX9_name_40 rfl ?_
            refine lv_aload_n hx hb dX9_name_41 rfl (lv_at hl 0 rfl) ?_
            refine Mg_10 S hin hK hP f28 dX9_name_42 ?_
            refine lv_iload_n hx hb dX9_name_45 rfl (lv_at hl 2 rfl) ?_
            obtain ⟨g5, hf⟩ := gd_some hf
            refine Ml_10 S hK hP g5 dX9_name_46 ?_
            refine lv_i2l hx hb dX9_name_47 rfl ?_
            refine lv_lor hx hb dX9_name_48 ?_
            refine lv_topl (fun x6 ex6 => ?_)
            have hf := nm_at ex6 hf
            refine lv_lstore_n (lv' := [(1, .long x6), (0, .ref (h 0)), (3, .int l3)]) hx hb dX9_name_49 rfl hl (by decide) rfl (fun ls hl => ?_)
            obtain ⟨x7, ex7, hf⟩ := nm_some hf
            refine lv_iinc (v := x7) (lv' := [(3, .int x7), (1, .long x6), (0, .ref (h 0))]) hx hb dX9_name_50 hl (k := 2) rfl (by rw [ex7]; rfl) (by decide) rfl (fun ls hl => ?_)
            refine lv_goto (tgt := 7) hx hb dX9_name_53 (by decide) ?_
            exact ih _ _ _ _ _ hf (lv_sub hl [2, 1, 0] rfl) hP hD hS
  unfold FM_name at hf
  refine lv_lconst (v := 0) hx hb dX9_name_0 (by decide) ?_
  refine lv_lstore_n (lv' := [(1, .long 0), (0, .ref (h 0))]) hx hb dX9_name_1 rfl hl (by decide) rfl (fun ls hl => ?_)
  refine lv_aload_n hx hb dX9_name_2 rfl (lv_at hl 1 rfl) ?_
  refine Mg_16 S hin hK hP f90 dX9_name_3 ?_
  refine lv_topi (fun x1 ex1 => ?_)
  have hf := nm_at ex1 hf
  refine lv_istore_n (lv' := [(3, .int x1), (1, .long 0), (0, .ref (h 0))]) hx hb dX9_name_6 rfl hl (by decide) rfl (fun ls hl => ?_)
  exact b7 fuelN _ _ _ _ _ hf (lv_sub hl [2, 1, 0] rfl) hP hD hS
