def FM_figures_7  : Nat → MS → Int32 → Int32 → Option Int32
  | 0, _, _, _ => none
  | n + 1, σ, l1, l2 => if (σ.1 17) ≤ l2 then (some l1) else (if (σ.1 15) = 3 then (gd (¬ ((l2 : Int32) < 0 ∨ 500 ≤ Int32.toNatClampNeg l2)) (nm (((10 * l1) + (σ.2 10 (Int32.toNatClampNeg l2))) - 48) fun (x5 : Int32) => nm (l2 + 1) fun (x6 : Int32) => (FM_figures_7 n) σ x5 x6)) else (some l1))
def FM_figures (σ : MS) : Option Int32 :=
  nm (σ.1 16) fun (x1 : Int32) => FM_figures_7 fuelN σ 0 x1
set_option maxHeartbeats 4000000 in
set_option maxRecDepth 100000 in
theorem kM_figures (l : Launch) (D : va_G) (h : Nat → Nat) (cI cZ : ClassId) (σ : MS) (r : Int32) (hf : FM_figures σ = some r) : KK l D [(cI, .int), (cZ, .boolean)] yX9_figures wsX9_figures 0 0 [.ref (h 0)] (mw h cI cZ σ) (some (.int r)) (mw h cI cZ σ) := by
  refine KK.ofI (own := RX9) (cc := cX9_figures) (maxL := 3) (by decide) rfl rfl (Nat.le_of_ble_eq_true rfl) ?_
  intro p e s m args below meth c R Q A ls S hRf hRl hK hA hP hD hS hl hret
  obtain ⟨hx, hb, hml, hown, hts⟩ := id S
  have hin : ∀ w ∈ wsX90, w ∈ wsX9_figures := fun w hw => List.mem_cons_of_mem _ (List.mem_append_right _ hw)
  have f90 := hts (.fieldLink RX9 90 "PenniesAwayModel" "start" "I") (by decide +kernel)
  have f102 := hts (.fieldLink RX9 102 "PenniesAwayModel" "till" "I") (by decide +kernel)
  have f93 := hts (.fieldLink RX9 93 "PenniesAwayModel" "token" "I") (by decide +kernel)
  have f28 := hts (.fieldLink RX9 28 "PenniesAwayModel" "tape" "[I") (by decide +kernel)
  have hl : lv_has ls 3 [(0, .ref (h 0))] := hl
  have hre : ∀ (x : Int32) (pc : Nat) (ls : Array Slot) (H : Heap) (locs : List Loc), (some x : Option Int32) = some r → va_P D vwCl (mw h cI cZ σ) H → va_D A (mw h cI cZ σ) → va_S A s.heap H locs → decode cX9_figures pc = .ok (.ireturn, 1) → W p l e R s m args below meth c H locs 0 0 Q (F0 m pc ls [.int x]) := by intro x pc ls H locs he; cases he; exact hret pc ls H locs
  have b7 : ∀ (n : Nat), ∀ (l1 : Int32) (l2 : Int32) (ls : Array Slot) (H : Heap) (locs : List Loc), FM_figures_7 n σ l1 l2 = some r → lv_has ls 3 [(0, .ref (h 0)), (1, .int l1), (2, .int l2)] → va_P D vwCl (mw h cI cZ σ) H → va_D A (mw h cI cZ σ) → va_S A s.heap H locs → W p l e R s m args below meth c H locs 0 0 Q (F0 m 7 ls []) := by
    intro n
    induction n with
    | zero => intro l1 l2 ls H locs hf; exact absurd hf (by simp [FM_figures_7])
    | succ n ih =>
      intro l1 l2 ls H locs hf hl hP hD hS
      rw [FM_figures_7] at hf
      refine lv_iload_n hx hb dX9_figures_7 rfl (lv_at hl 2 rfl) ?_
      refine lv_aload_n hx hb dX9_figures_8 rfl (lv_at hl 0 rfl) ?_
      refine Mg_17 S hin hK hP f102 dX9_figures_9 ?_
      refine lv_icmp_ge (tgt := 44) hx hb dX9_figures_12 (by decide) (fun c2 => ?_) (fun c2 => ?_)
      · have hf := (if_pos c2).symm.trans hf
        refine lv_iload_n hx hb dX9_figures_44 rfl (lv_at hl 1 rfl) ?_
        exact hre _ _ _ _ _ hf hP hD hS dX9_figures_45
      · have hf := (if_neg c2).symm.trans hf
        refine lv_aload_n hx hb dX9_figures_15 rfl (lv_at hl 0 rfl) ?_
        refine Mg_15 S hin hK hP f93 dX9_figures_16 ?_
        refine lv_iconst (v := 3) hx hb dX9_figures_19 (by decide) ?_
        refine lv_icmp_ne (tgt := 44) hx hb dX9_figures_20 (by decide) (fun c3 => ?_) (fun c3 => ?_)
        · have hf := (if_neg c3).symm.trans hf
          refine lv_iload_n hx hb dX9_figures_44 rfl (lv_at hl 1 rfl) ?_
          exact hre _ _ _ _ _ hf hP hD hS dX9_figures_45
        · have hf := (if_pos c3).symm.trans hf
          refine lv_bipush (v := 10) hx hb dX9_figures_23 (by decide) ?_
          refine lv_iload_n hx hb dX9_figures_25 rfl (lv_at hl 1 rfl) ?_
          refine lv_imul hx hb dX9_figures_26 ?_
          refine lv_aload_n hx hb dX9_figures_27 rfl (lv_at hl 0 rfl) ?_
          refine Mg_10 S hin hK hP f28 dX9_figures_28 ?_
          refine lv_iload_n hx hb dX9_figures_31 rfl (lv_at hl 2 rfl) ?_
          obtain ⟨g4, hf⟩ := gd_some hf
          refine Ml_10 S hK hP g4 dX9_figures_32 ?_
          refine lv_iadd hx hb dX9_figures_33 ?_
          refine lv_bipush (v := 48) hx hb dX9_figures_34 (by decide) ?_
          refine lv_isub hx hb dX9_figures_36 ?_
          refine lv_topi (fun x5 ex5 => ?_)
          have hf := nm_at ex5 hf
          refine lv_istore_n (lv' := [(1, .int x5), (0, .ref (h 0)), (2, .int l2)]) hx hb dX9_figures_37 rfl hl (by decide) rfl (fun ls hl => ?_)
          obtain ⟨x6, ex6, hf⟩ := nm_some hf
          refine lv_iinc (v := x6) (lv' := [(2, .int x6), (1, .int x5), (0, .ref (h 0))]) hx hb dX9_figures_38 hl (k := 2) rfl (by rw [ex6]; rfl) (by decide) rfl (fun ls hl => ?_)
          refine lv_goto (tgt := 7) hx hb dX9_figures_41 (by decide) ?_
          exact ih _ _ _ _ _ hf (lv_sub hl [2, 1, 0] rfl) hP hD hS
  unfold FM_figures at hf
  refine lv_iconst (v := 0) hx hb dX9_figures_0 (by decide) ?_
  refine lv_istore_n (lv' := [(1, .int 0), (0, .ref (h 0))]) hx hb dX9_figures_1 rfl hl (by decide) rfl (fun ls hl => ?_)
  refine lv_aload_n hx hb dX9_figures_2 rfl (lv_at hl 1 rfl) ?_
  refine Mg_16 S hin hK hP f90 dX9_figures_3 ?_
  refine lv_topi (fun x1 ex1 => ?_)
  have hf := nm_at ex1 hf
  refine lv_istore_n (lv' := [(2, .int x1), (1, .int 0), (0, .ref (h 0))]) hx hb dX9_figures_6 rfl hl (by decide) rfl (fun ls hl => ?_)
  exact b7 fuelN _ _ _ _ _ hf (lv_sub hl [2, 1, 0] rfl) hP hD hS
def FM_number_53 (σ : MS) (l3 : Int32) (s0 : Int32) : Option (Int32 × MS) :=
  Option.bind (FM_must σ s0) fun (σ10 : MS) => some (l3, σ10)
def FM_number_39 (σ : MS) (l3 : Int32) : Option (Int32 × MS) :=
  if (σ.1 15) = 3 then (FM_number_53 σ l3 1) else (FM_number_53 σ l3 0)
def FM_number (σ : MS) (a1 : Int32) (a2 : Int32) : Option (Int32 × MS) :=
  if (σ.1 18) ≤ 0 then (Option.bind (FM_figures σ) fun (r2 : Int32) => if (σ.1 15) = 3 then (Option.bind (FM_in (Int32.toInt64 r2) (Int32.toInt64 a1) (Int32.toInt64 a2)) fun (r4 : Int32) => if r4 = 0 then (Option.bind (FM_bad σ 2) fun (σ7 : MS) => FM_number_39 σ7 r2) else (FM_number_39 σ r2)) else (FM_number_39 σ r2)) else (some (0, σ))
set_option maxHeartbeats 4000000 in
set_option maxRecDepth 100000 in
theorem kM_number (l : Launch) (D : va_G) (h : Nat → Nat) (cI cZ : ClassId) (σ : MS) (a1 : Int32) (a2 : Int32) (r : Int32) (σ' : MS) (hf : FM_number σ a1 a2 = some (r, σ')) : KK l D [(cI, .int), (cZ, .boolean)] yX9_number wsX9_number 3 63 [.ref (h 0), .int a1, .int a2] (mw h cI cZ σ) (some (.int r)) (mw h cI cZ σ') := by
  refine KK.ofI (own := RX9) (cc := cX9_number) (maxL := 4) (by decide) rfl rfl (Nat.le_of_ble_eq_true rfl) ?_
  intro p e s m args below meth c R Q A ls S hRf hRl hK hA hP hD hS hl hret
  obtain ⟨hx, hb, hml, hown, hts⟩ := id S
  have hin : ∀ w ∈ wsX90, w ∈ wsX9_number := fun w hw => List.mem_cons_of_mem _ (List.mem_append_right _ hw)
  have f105 := hts (.fieldLink RX9 105 "PenniesAwayModel" "fault" "I") (by decide +kernel)
  have f93 := hts (.fieldLink RX9 93 "PenniesAwayModel" "token" "I") (by decide +kernel)
  have hl : lv_has ls 4 [(0, .ref (h 0)), (1, .int a1), (2, .int a2)] := hl
  have hre : ∀ (x : Int32) (σx : MS) (pc : Nat) (ls : Array Slot) (H : Heap) (locs : List Loc), (some (x, σx) : Option (Int32 × MS)) = some (r, σ') → va_P D vwCl (mw h cI cZ σx) H → va_D A (mw h cI cZ σx) → va_S A s.heap H locs → decode cX9_number pc = .ok (.ireturn, 1) → W p l e R s m args below meth c H locs 0 0 Q (F0 m pc ls [.int x]) := by intro x σx pc ls H locs he; cases he; exact hret pc ls H locs
  have b53 : ∀ (σ : MS) (l3 : Int32) (s0 : Int32) (ls : Array Slot) (H : Heap) (locs : List Loc), FM_number_53 σ l3 s0 = some (r, σ') → lv_has ls 4 [(3, .int l3)] → va_P D vwCl (mw h cI cZ σ) H → va_D A (mw h cI cZ σ) → va_S A s.heap H locs → W p l e R s m args below meth c H locs 0 0 Q (F0 m 53 ls [.int s0, .ref (h 0)]) := by
    intro σ l3 s0 ls H locs hf hl hP hD hS
    unfold FM_number_53 at hf
    obtain ⟨σ10, hr9, hf⟩ := bi_some hf
    refine kc_v (ci := 8) (q0 := 0) (n := 1) S hRf hRl hK hA hP hD hS hl [.int s0] [] (kM_must l D h cI cZ σ s0 σ10 hr9) gX9_number_X9_must rfl (by decide +kernel) rfl ⟨by decide, by decide⟩ rfl rfl rfl rfl (Nat.le_of_ble_eq_true rfl) dX9_number_53 (fun H locs hP hD hS => ?_)
    refine W.eq (g2 := F0 m 56 ls []) rfl ?_
    refine lv_iload_n hx hb dX9_number_56 rfl (lv_at hl 0 rfl) ?_
    exact hre _ _ _ _ _ _ hf hP hD hS dX9_number_57
  have b39 : ∀ (σ : MS) (l3 : Int32) (ls : Array Slot) (H : Heap) (locs : List Loc), FM_number_39 σ l3 = some (r, σ') → lv_has ls 4 [(0, .ref (h 0)), (3, .int l3)] → va_P D vwCl (mw h cI cZ σ) H → va_D A (mw h cI cZ σ) → va_S A s.heap H locs → W p l e R s m args below meth c H locs 0 0 Q (F0 m 39 ls []) := by
    intro σ l3 ls H locs hf hl hP hD hS
    unfold FM_number_39 at hf
    refine lv_aload_n hx hb dX9_number_39 rfl (lv_at hl 0 rfl) ?_
    refine lv_aload_n hx hb dX9_number_40 rfl (lv_at hl 0 rfl) ?_
    refine Mg_15 S hin hK hP f93 dX9_number_41 ?_
    refine lv_iconst (v := 3) hx hb dX9_number_44 (by decide) ?_
    refine lv_icmp_ne (tgt := 52) hx hb dX9_number_45 (by decide) (fun c8 => ?_) (fun c8 => ?_)
    · have hf := (if_neg c8).symm.trans hf
      refine lv_iconst (v := 0) hx hb dX9_number_52 (by decide) ?_
      exact b53 _ _ _ _ _ _ hf (lv_sub hl [1] rfl) hP hD hS
    · have hf := (if_pos c8).symm.trans hf
      refine lv_iconst (v := 1) hx hb dX9_number_48 (by decide) ?_
      refine lv_goto (tgt := 53) hx hb dX9_number_49 (by decide) ?_
      exact b53 _ _ _ _ _ _ hf (lv_sub hl [1] rfl) hP hD hS
  unfold FM_number at hf
  refine lv_aload_n hx hb dX9_number_0 rfl (lv_at hl 0 rfl) ?_
  refine Mg_18 S hin hK hP f105 dX9_number_1 ?_
  refine lv_if_le (tgt := 9) hx hb dX9_number_4 (by decide) (fun c1 => ?_) (fun c1 => ?_)
  · have hf := (if_pos c1).symm.trans hf
    refine lv_aload_n hx hb dX9_number_9 rfl (lv_at hl 0 rfl) ?_
    obtain ⟨r2, hr2, hf⟩ := bi_some hf
    refine kc_v (ci := 8) (q0 := 0) (n := 0) S hRf hRl hK hA hP hD hS hl [] [] (kM_figures l D h cI cZ σ  r2 hr2) gX9_number_X9_figures rfl (by decide +kernel) rfl ⟨by decide, by decide⟩ rfl rfl rfl rfl (Nat.le_of_ble_eq_true rfl) dX9_number_10 (fun H locs hP hD hS => ?_)
    refine W.eq (g2 := F0 m 13 ls [.int r2]) rfl ?_
    refine lv_istore_n (lv' := [(3, .int r2), (0, .ref (h 0)), (1, .int a1), (2, .int a2)]) hx hb dX9_number_13 rfl hl (by decide) rfl (fun ls hl => ?_)
    refine lv_aload_n hx hb dX9_number_14 rfl (lv_at hl 1 rfl) ?_
    refine Mg_15 S hin hK hP f93 dX9_number_15 ?_
    refine lv_iconst (v := 3) hx hb dX9_number_18 (by decide) ?_
    refine lv_icmp_ne (tgt := 39) hx hb dX9_number_19 (by decide) (fun c3 => ?_) (fun c3 => ?_)
    · have hf := (if_neg c3).symm.trans hf
      exact b39 _ _ _ _ _ hf (lv_sub hl [1, 0] rfl) hP hD hS
    · have hf := (if_pos c3).symm.trans hf
      refine lv_iload_n hx hb dX9_number_22 rfl (lv_at hl 0 rfl) ?_
      refine lv_i2l hx hb dX9_number_23 rfl ?_
      refine lv_iload_n hx hb dX9_number_24 rfl (lv_at hl 2 rfl) ?_
      refine lv_i2l hx hb dX9_number_25 rfl ?_
      refine lv_iload_n hx hb dX9_number_26 rfl (lv_at hl 3 rfl) ?_
      refine lv_i2l hx hb dX9_number_27 rfl ?_
      obtain ⟨r4, hr4, hf⟩ := bi_some hf
      refine kc_s (n := 3) S hRf hRl hK hA hP hD hS hl [.long (Int32.toInt64 r2), .long (Int32.toInt64 a1), .long (Int32.toInt64 a2)] [] (kM_in l D _ _ (Int32.toInt64 r2) (Int32.toInt64 a1) (Int32.toInt64 a2) r4 hr4) gX9_number_X9_in rfl (by decide +kernel) rfl ⟨by decide, by decide⟩ rfl (Nat.le_of_ble_eq_true rfl) dX9_number_28 (fun H locs hP hD hS => ?_)
      refine W.eq (g2 := F0 m 31 ls [.int r4]) rfl ?_
      refine lv_if_ne (tgt := 39) hx hb dX9_number_31 (by decide) (fun c5 => ?_) (fun c5 => ?_)
      · have hf := (if_neg c5).symm.trans hf
        exact b39 _ _ _ _ _ hf (lv_sub hl [1, 0] rfl) hP hD hS
      · have hf := (if_pos c5).symm.trans hf
        refine lv_aload_n hx hb dX9_number_34 rfl (lv_at hl 1 rfl) ?_
        refine lv_iconst (v := 2) hx hb dX9_number_35 (by decide) ?_
        obtain ⟨σ7, hr6, hf⟩ := bi_some hf
        refine kc_v (ci := 8) (q0 := 0) (n := 1) S hRf hRl hK hA hP hD hS hl [.int 2] [] (kM_bad l D h cI cZ σ 2 σ7 hr6) gX9_number_X9_bad rfl (by decide +kernel) rfl ⟨by decide, by decide⟩ rfl rfl rfl rfl (Nat.le_of_ble_eq_true rfl) dX9_number_36 (fun H locs hP hD hS => ?_)
        refine W.eq (g2 := F0 m 39 ls []) rfl ?_
        exact b39 _ _ _ _ _ hf (lv_sub hl [1, 0] rfl) hP hD hS
  · have hf := (if_neg c1).symm.trans hf
    refine lv_iconst (v := 0) hx hb dX9_number_7 (by decide) ?_
    exact hre _ _ _ _ _ _ hf hP hD hS dX9_number_8
def FM_kindBy (a0 : Int64) : Option Int32 :=
  if (lg_cmp a0 1735355492) = 0 then (some 2) else (if (lg_cmp a0 126896628458866) = 0 then (some 1) else (if (lg_cmp a0 109330278933874) = 0 then (some 3) else (if (lg_cmp a0 112628846781796) = 0 then (some 5) else (if (lg_cmp a0 7302244) = 0 then (some 4) else (some (-1000000))))))
set_option maxHeartbeats 4000000 in
set_option maxRecDepth 100000 in
theorem kM_kindBy (l : Launch) (D : va_G) (tys : List (ClassId × FieldType)) (w0 : va_W) (a0 : Int64) (r : Int32) (hf : FM_kindBy a0 = some r) : KK l D tys yX9_kindBy wsX9_kindBy 0 0 [.long a0] w0 (some (.int r)) w0 := by
  refine KK.ofI (own := RX9) (cc := cX9_kindBy) (maxL := 2) (by decide) rfl rfl (Nat.le_of_ble_eq_true rfl) ?_
  intro p e s m args below meth c R Q A ls S hRf hRl hK hA hP hD hS hl hret
  obtain ⟨hx, hb, hml, hown, hts⟩ := id S
  have c126 := hts (.constantLong RX9 126 (1735355492)) (by decide +kernel)
  have c128 := hts (.constantLong RX9 128 (126896628458866)) (by decide +kernel)
  have c130 := hts (.constantLong RX9 130 (109330278933874)) (by decide +kernel)
  have c132 := hts (.constantLong RX9 132 (112628846781796)) (by decide +kernel)
  have c134 := hts (.constantLong RX9 134 (7302244)) (by decide +kernel)
  have c83 := hts (.constant RX9 83 (-1000000)) (by decide +kernel)
  have hl : lv_has ls 2 [(0, .long a0)] := hl
  have hre : ∀ (x : Int32) (pc : Nat) (ls : Array Slot) (H : Heap) (locs : List Loc), (some x : Option Int32) = some r → va_P D vwCl w0 H → va_D A w0 → va_S A s.heap H locs → decode cX9_kindBy pc = .ok (.ireturn, 1) → W p l e R s m args below meth c H locs 0 0 Q (F0 m pc ls [.int x]) := by intro x pc ls H locs he; cases he; exact hret pc ls H locs
  unfold FM_kindBy at hf
  refine lv_lload_n hx hb dX9_kindBy_0 rfl (lv_at hl 0 rfl) ?_
  refine lv_ldc2 (v := 1735355492) hx hb hown c126 dX9_kindBy_1 ?_
  refine W.lcmp hx hb dX9_kindBy_4 ?_
  refine lv_if_ne (tgt := 12) hx hb dX9_kindBy_5 (by decide) (fun c1 => ?_) (fun c1 => ?_)
  · have hf := (if_neg c1).symm.trans hf
    refine lv_lload_n hx hb dX9_kindBy_12 rfl (lv_at hl 0 rfl) ?_
    refine lv_ldc2 (v := 126896628458866) hx hb hown c128 dX9_kindBy_13 ?_
    refine W.lcmp hx hb dX9_kindBy_16 ?_
    refine lv_if_ne (tgt := 24) hx hb dX9_kindBy_17 (by decide) (fun c2 => ?_) (fun c2 => ?_)
    · have hf := (if_neg c2).symm.trans hf
      refine lv_lload_n hx hb dX9_kindBy_24 rfl (lv_at hl 0 rfl) ?_
      refine lv_ldc2 (v := 109330278933874) hx hb hown c130 dX9_kindBy_25 ?_
      refine W.lcmp hx hb dX9_kindBy_28 ?_
      refine lv_if_ne (tgt := 36) hx hb dX9_kindBy_29 (by decide) (fun c3 => ?_) (fun c3 => ?_)
      · have hf := (if_neg c3).symm.trans hf
        refine lv_lload_n hx hb dX9_kindBy_36 rfl (lv_at hl 0 rfl) ?_
        refine lv_ldc2 (v := 112628846781796) hx hb hown c132 dX9_kindBy_37 ?_
        refine W.lcmp hx hb dX9_kindBy_40 ?_
        refine lv_if_ne (tgt := 48) hx hb dX9_kindBy_41 (by decide) (fun c4 => ?_) (fun c4 => ?_)
        · have hf := (if_neg c4).symm.trans hf
          refine lv_lload_n hx hb dX9_kindBy_48 rfl (lv_at hl 0 rfl) ?_
          refine lv_ldc2 (v := 7302244) hx hb hown c134 dX9_kindBy_49 ?_
          refine W.lcmp hx hb dX9_kindBy_52 ?_
          refine lv_if_ne (tgt := 60) hx hb dX9_kindBy_53 (by decide) (fun c5 => ?_) (fun c5 => ?_)
          · have hf := (if_neg c5).symm.trans hf
            refine lv_ldc (v := (-1000000)) hx hb hown c83 dX9_kindBy_60 ?_
            exact hre _ _ _ _ _ hf hP hD hS dX9_kindBy_62
          · have hf := (if_pos c5).symm.trans hf
            refine lv_iconst (v := 4) hx hb dX9_kindBy_56 (by decide) ?_
            refine lv_goto (tgt := 62) hx hb dX9_kindBy_57 (by decide) ?_
            exact hre _ _ _ _ _ hf hP hD hS dX9_kindBy_62
        · have hf := (if_pos c4).symm.trans hf
          refine lv_iconst (v := 5) hx hb dX9_kindBy_44 (by decide) ?_
          refine lv_goto (tgt := 62) hx hb dX9_kindBy_45 (by decide) ?_
          exact hre _ _ _ _ _ hf hP hD hS dX9_kindBy_62
      · have hf := (if_pos c3).symm.trans hf
        refine lv_iconst (v := 3) hx hb dX9_kindBy_32 (by decide) ?_
        refine lv_goto (tgt := 62) hx hb dX9_kindBy_33 (by decide) ?_
        exact hre _ _ _ _ _ hf hP hD hS dX9_kindBy_62
    · have hf := (if_pos c2).symm.trans hf
      refine lv_iconst (v := 1) hx hb dX9_kindBy_20 (by decide) ?_
      refine lv_goto (tgt := 62) hx hb dX9_kindBy_21 (by decide) ?_
      exact hre _ _ _ _ _ hf hP hD hS dX9_kindBy_62
  · have hf := (if_pos c1).symm.trans hf
    refine lv_iconst (v := 2) hx hb dX9_kindBy_8 (by decide) ?_
    refine lv_goto (tgt := 62) hx hb dX9_kindBy_9 (by decide) ?_
    exact hre _ _ _ _ _ hf hP hD hS dX9_kindBy_62
def FM_mustEnd_21 (σ : MS) (s0 : Int32) : Option MS :=
  Option.bind (FM_must σ s0) fun (σ4 : MS) => some σ4
def FM_mustEnd (σ : MS) : Option MS :=
  if (σ.1 18) = 0 then (if (σ.1 15) = 4 then (FM_mustEnd_21 σ 1) else (FM_mustEnd_21 σ 0)) else (some σ)
set_option maxHeartbeats 4000000 in
set_option maxRecDepth 100000 in
theorem kM_mustEnd (l : Launch) (D : va_G) (h : Nat → Nat) (cI cZ : ClassId) (σ : MS)  (σ' : MS) (hf : FM_mustEnd σ = some σ') : KK l D [(cI, .int), (cZ, .boolean)] yX9_mustEnd wsX9_mustEnd 3 63 [.ref (h 0)] (mw h cI cZ σ) none (mw h cI cZ σ') := by
  refine KK.ofV (own := RX9) (cc := cX9_mustEnd) (maxL := 1) (by decide) rfl rfl (Nat.le_of_ble_eq_true rfl) ?_
  intro p e s m args below meth c R Q A ls S hRf hRl hK hA hP hD hS hl hret
  obtain ⟨hx, hb, hml, hown, hts⟩ := id S
  have hin : ∀ w ∈ wsX90, w ∈ wsX9_mustEnd := fun w hw => List.mem_cons_of_mem _ (List.mem_append_right _ hw)
  have f105 := hts (.fieldLink RX9 105 "PenniesAwayModel" "fault" "I") (by decide +kernel)
  have f93 := hts (.fieldLink RX9 93 "PenniesAwayModel" "token" "I") (by decide +kernel)
  have hl : lv_has ls 1 [(0, .ref (h 0))] := hl
  have hre : ∀ (σx : MS) (pc : Nat) (ls : Array Slot) (H : Heap) (locs : List Loc), (some σx : Option MS) = some σ' → va_P D vwCl (mw h cI cZ σx) H → va_D A (mw h cI cZ σx) → va_S A s.heap H locs → decode cX9_mustEnd pc = .ok (.return_, 1) → W p l e R s m args below meth c H locs 0 0 Q (F0 m pc ls []) := by intro σx pc ls H locs he; cases he; exact hret pc ls H locs
  have b21 : ∀ (σ : MS) (s0 : Int32) (ls : Array Slot) (H : Heap) (locs : List Loc), FM_mustEnd_21 σ s0 = some σ' → lv_has ls 1 [] → va_P D vwCl (mw h cI cZ σ) H → va_D A (mw h cI cZ σ) → va_S A s.heap H locs → W p l e R s m args below meth c H locs 0 0 Q (F0 m 21 ls [.int s0, .ref (h 0)]) := by
    intro σ s0 ls H locs hf hl hP hD hS
    unfold FM_mustEnd_21 at hf
    obtain ⟨σ4, hr3, hf⟩ := bi_some hf
    refine kc_v (ci := 8) (q0 := 0) (n := 1) S hRf hRl hK hA hP hD hS hl [.int s0] [] (kM_must l D h cI cZ σ s0 σ4 hr3) gX9_mustEnd_X9_must rfl (by decide +kernel) rfl ⟨by decide, by decide⟩ rfl rfl rfl rfl (Nat.le_of_ble_eq_true rfl) dX9_mustEnd_21 (fun H locs hP hD hS => ?_)
    refine W.eq (g2 := F0 m 24 ls []) rfl ?_
    exact hre _ _ _ _ _ hf hP hD hS dX9_mustEnd_24
  unfold FM_mustEnd at hf
  refine lv_aload_n hx hb dX9_mustEnd_0 rfl (lv_at hl 0 rfl) ?_
  refine Mg_18 S hin hK hP f105 dX9_mustEnd_1 ?_
  refine lv_if_ne (tgt := 24) hx hb dX9_mustEnd_4 (by decide) (fun c1 => ?_) (fun c1 => ?_)
  · have hf := (if_neg c1).symm.trans hf
    exact hre _ _ _ _ _ hf hP hD hS dX9_mustEnd_24
  · have hf := (if_pos c1).symm.trans hf
    refine lv_aload_n hx hb dX9_mustEnd_7 rfl (lv_at hl 0 rfl) ?_
    refine lv_aload_n hx hb dX9_mustEnd_8 rfl (lv_at hl 0 rfl) ?_
    refine Mg_15 S hin hK hP f93 dX9_mustEnd_9 ?_
    refine lv_iconst (v := 4) hx hb dX9_mustEnd_12 (by decide) ?_
    refine lv_icmp_ne (tgt := 20) hx hb dX9_mustEnd_13 (by decide) (fun c2 => ?_) (fun c2 => ?_)
    · have hf := (if_neg c2).symm.trans hf
      refine lv_iconst (v := 0) hx hb dX9_mustEnd_20 (by decide) ?_
      exact b21 _ _ _ _ _ hf (lv_sub hl [] rfl) hP hD hS
    · have hf := (if_pos c2).symm.trans hf
      refine lv_iconst (v := 1) hx hb dX9_mustEnd_16 (by decide) ?_
      refine lv_goto (tgt := 21) hx hb dX9_mustEnd_17 (by decide) ?_
      exact b21 _ _ _ _ _ hf (lv_sub hl [] rfl) hP hD hS
def FM_begins_15 (σ : MS) : Option MS :=
  Option.bind (FM_must σ 1) fun (σ6 : MS) => some σ6
def FM_begins (σ : MS) (a1 : Int32) (a2 : Int32) : Option MS :=
  gd (¬ ((a1 : Int32) < 0 ∨ 147 ≤ Int32.toNatClampNeg a1)) (if (σ.2 6 (Int32.toNatClampNeg a1)) = a2 then (Option.bind (FM_bad σ 3) fun (σ4 : MS) => FM_begins_15 σ4) else (FM_begins_15 σ))
set_option maxHeartbeats 4000000 in
set_option maxRecDepth 100000 in
theorem kM_begins (l : Launch) (D : va_G) (h : Nat → Nat) (cI cZ : ClassId) (σ : MS) (a1 : Int32) (a2 : Int32)  (σ' : MS) (hf : FM_begins σ a1 a2 = some σ') : KK l D [(cI, .int), (cZ, .boolean)] yX9_begins wsX9_begins 3 63 [.ref (h 0), .int a1, .int a2] (mw h cI cZ σ) none (mw h cI cZ σ') := by
  refine KK.ofV (own := RX9) (cc := cX9_begins) (maxL := 3) (by decide) rfl rfl (Nat.le_of_ble_eq_true rfl) ?_
  intro p e s m args below meth c R Q A ls S hRf hRl hK hA hP hD hS hl hret
  obtain ⟨hx, hb, hml, hown, hts⟩ := id S
  have hin : ∀ w ∈ wsX90, w ∈ wsX9_begins := fun w hw => List.mem_cons_of_mem _ (List.mem_append_right _ hw)
  have f22 := hts (.fieldLink RX9 22 "PenniesAwayModel" "fresh" "[I") (by decide +kernel)
  have hl : lv_has ls 3 [(0, .ref (h 0)), (1, .int a1), (2, .int a2)] := hl
  have hre : ∀ (σx : MS) (pc : Nat) (ls : Array Slot) (H : Heap) (locs : List Loc), (some σx : Option MS) = some σ' → va_P D vwCl (mw h cI cZ σx) H → va_D A (mw h cI cZ σx) → va_S A s.heap H locs → decode cX9_begins pc = .ok (.return_, 1) → W p l e R s m args below meth c H locs 0 0 Q (F0 m pc ls []) := by intro σx pc ls H locs he; cases he; exact hret pc ls H locs
  have b15 : ∀ (σ : MS) (ls : Array Slot) (H : Heap) (locs : List Loc), FM_begins_15 σ = some σ' → lv_has ls 3 [(0, .ref (h 0))] → va_P D vwCl (mw h cI cZ σ) H → va_D A (mw h cI cZ σ) → va_S A s.heap H locs → W p l e R s m args below meth c H locs 0 0 Q (F0 m 15 ls []) := by
    intro σ ls H locs hf hl hP hD hS
    unfold FM_begins_15 at hf
    refine lv_aload_n hx hb dX9_begins_15 rfl (lv_at hl 0 rfl) ?_
    refine lv_iconst (v := 1) hx hb dX9_begins_16 (by decide) ?_
    obtain ⟨σ6, hr5, hf⟩ := bi_some hf
    refine kc_v (ci := 8) (q0 := 0) (n := 1) S hRf hRl hK hA hP hD hS hl [.int 1] [] (kM_must l D h cI cZ σ 1 σ6 hr5) gX9_begins_X9_must rfl (by decide +kernel) rfl ⟨by decide, by decide⟩ rfl rfl rfl rfl (Nat.le_of_ble_eq_true rfl) dX9_begins_17 (fun H locs hP hD hS => ?_)
    refine W.eq (g2 := F0 m 20 ls []) rfl ?_
    exact hre _ _ _ _ _ hf hP hD hS dX9_begins_20
  unfold FM_begins at hf
  refine lv_aload_n hx hb dX9_begins_0 rfl (lv_at hl 0 rfl) ?_
  refine Mg_6 S hin hK hP f22 dX9_begins_1 ?_
  refine lv_iload_n hx hb dX9_begins_4 rfl (lv_at hl 1 rfl) ?_
  obtain ⟨g1, hf⟩ := gd_some hf
  refine Ml_6 S hK hP g1 dX9_begins_5 ?_
  refine lv_iload_n hx hb dX9_begins_6 rfl (lv_at hl 2 rfl) ?_
  refine lv_icmp_ne (tgt := 15) hx hb dX9_begins_7 (by decide) (fun c2 => ?_) (fun c2 => ?_)
  · have hf := (if_neg c2).symm.trans hf
    exact b15 _ _ _ _ hf (lv_sub hl [0] rfl) hP hD hS
  · have hf := (if_pos c2).symm.trans hf
    refine lv_aload_n hx hb dX9_begins_10 rfl (lv_at hl 0 rfl) ?_
    refine lv_iconst (v := 3) hx hb dX9_begins_11 (by decide) ?_
    obtain ⟨σ4, hr3, hf⟩ := bi_some hf
    refine kc_v (ci := 8) (q0 := 0) (n := 1) S hRf hRl hK hA hP hD hS hl [.int 3] [] (kM_bad l D h cI cZ σ 3 σ4 hr3) gX9_begins_X9_bad rfl (by decide +kernel) rfl ⟨by decide, by decide⟩ rfl rfl rfl rfl (Nat.le_of_ble_eq_true rfl) dX9_begins_12 (fun H locs hP hD hS => ?_)
    refine W.eq (g2 := F0 m 15 ls []) rfl ?_
    exact b15 _ _ _ _ hf (lv_sub hl [0] rfl) hP hD hS
def FM_readRoad_104 (σ : MS) (l1 : Int32) (l2 : Int32) (s0 : Int32) : Option MS :=
  gd (¬ ((((5 + (8 * l1)) + l2) : Int32) < 0 ∨ 147 ≤ Int32.toNatClampNeg ((5 + (8 * l1)) + l2))) (nm (setA σ 6 (Int32.toNatClampNeg ((5 + (8 * l1)) + l2)) s0) fun (σ22 : MS) => gd (¬ ((((5 + (8 * l2)) + l1) : Int32) < 0 ∨ 147 ≤ Int32.toNatClampNeg ((5 + (8 * l2)) + l1))) (nm (setA σ22 6 (Int32.toNatClampNeg ((5 + (8 * l2)) + l1)) s0) fun (σ24 : MS) => gd (¬ ((1 : Int32) < 0 ∨ 147 ≤ Int32.toNatClampNeg 1)) (gd (¬ ((1 : Int32) < 0 ∨ 147 ≤ Int32.toNatClampNeg 1)) (nm (setA σ24 6 (Int32.toNatClampNeg 1) ((σ24.2 6 (Int32.toNatClampNeg 1)) + 1)) fun (σ27 : MS) => some σ27))))
def FM_readRoad_43 (σ : MS) (l1 : Int32) : Option MS :=
  bd2 (FM_number σ 0 7) fun (r11 : Int32) (σ12 : MS) => bd2 (FM_number σ12 1 90) fun (r13 : Int32) (σ14 : MS) => Option.bind (FM_mustEnd σ14) fun (σ16 : MS) => if (σ16.1 18) = 0 then (gd (¬ ((((5 + (8 * l1)) + r11) : Int32) < 0 ∨ 147 ≤ Int32.toNatClampNeg ((5 + (8 * l1)) + r11))) (if r13 ≤ (σ16.2 6 (Int32.toNatClampNeg ((5 + (8 * l1)) + r11))) then (FM_readRoad_104 σ16 l1 r11 r13) else (gd (¬ ((((5 + (8 * l1)) + r11) : Int32) < 0 ∨ 147 ≤ Int32.toNatClampNeg ((5 + (8 * l1)) + r11))) (FM_readRoad_104 σ16 l1 r11 (σ16.2 6 (Int32.toNatClampNeg ((5 + (8 * l1)) + r11))))))) else (some σ16)
def FM_readRoad (σ : MS) : Option MS :=
  Option.bind (FM_begins σ 1 14) fun (σ2 : MS) => bd2 (FM_number σ2 0 7) fun (r3 : Int32) (σ4 : MS) => if (σ4.1 18) = 0 then (if (σ4.1 15) = 3 then (Option.bind (FM_figures σ4) fun (r7 : Int32) => if r7 = r3 then (Option.bind (FM_bad σ4 2) fun (σ10 : MS) => FM_readRoad_43 σ10 r3) else (FM_readRoad_43 σ4 r3)) else (FM_readRoad_43 σ4 r3)) else (FM_readRoad_43 σ4 r3)
set_option maxHeartbeats 4000000 in
set_option maxRecDepth 100000 in
theorem kM_readRoad (l : Launch) (D : va_G) (h : Nat → Nat) (cI cZ : ClassId) (σ : MS)  (σ' : MS) (hf : FM_readRoad σ = some σ') : KK l D [(cI, .int), (cZ, .boolean)] yX9_readRoad wsX9_readRoad 4 86 [.ref (h 0)] (mw h cI cZ σ) none (mw h cI cZ σ') := by
  refine KK.ofV (own := RX9) (cc := cX9_readRoad) (maxL := 5) (by decide) rfl rfl (Nat.le_of_ble_eq_true rfl) ?_
  intro p e s m args below meth c R Q A ls S hRf hRl hK hA hP hD hS hl hret
  obtain ⟨hx, hb, hml, hown, hts⟩ := id S
  have hin : ∀ w ∈ wsX90, w ∈ wsX9_readRoad := fun w hw => List.mem_cons_of_mem _ (List.mem_append_right _ hw)
  have f105 := hts (.fieldLink RX9 105 "PenniesAwayModel" "fault" "I") (by decide +kernel)
  have f93 := hts (.fieldLink RX9 93 "PenniesAwayModel" "token" "I") (by decide +kernel)
  have f22 := hts (.fieldLink RX9 22 "PenniesAwayModel" "fresh" "[I") (by decide +kernel)
  have hl : lv_has ls 5 [(0, .ref (h 0))] := hl
  have hre : ∀ (σx : MS) (pc : Nat) (ls : Array Slot) (H : Heap) (locs : List Loc), (some σx : Option MS) = some σ' → va_P D vwCl (mw h cI cZ σx) H → va_D A (mw h cI cZ σx) → va_S A s.heap H locs → decode cX9_readRoad pc = .ok (.return_, 1) → W p l e R s m args below meth c H locs 0 0 Q (F0 m pc ls []) := by intro σx pc ls H locs he; cases he; exact hret pc ls H locs
  have b104 : ∀ (σ : MS) (l1 : Int32) (l2 : Int32) (s0 : Int32) (ls : Array Slot) (H : Heap) (locs : List Loc), FM_readRoad_104 σ l1 l2 s0 = some σ' → lv_has ls 5 [(0, .ref (h 0)), (1, .int l1), (2, .int l2)] → va_P D vwCl (mw h cI cZ σ) H → va_D A (mw h cI cZ σ) → va_S A s.heap H locs → W p l e R s m args below meth c H locs 0 0 Q (F0 m 104 ls [.int s0]) := by
    intro σ l1 l2 s0 ls H locs hf hl hP hD hS
    unfold FM_readRoad_104 at hf
    refine lv_istore (lv' := [(4, .int s0), (0, .ref (h 0)), (1, .int l1), (2, .int l2)]) hx hb dX9_readRoad_104 hl (by decide) rfl (fun ls hl => ?_)
    refine lv_aload_n hx hb dX9_readRoad_106 rfl (lv_at hl 1 rfl) ?_
    refine Mg_6 S hin hK hP f22 dX9_readRoad_107 ?_
    refine lv_iconst (v := 5) hx hb dX9_readRoad_110 (by decide) ?_
    refine lv_bipush (v := 8) hx hb dX9_readRoad_111 (by decide) ?_
    refine lv_iload_n hx hb dX9_readRoad_113 rfl (lv_at hl 2 rfl) ?_
    refine lv_imul hx hb dX9_readRoad_114 ?_
    refine lv_iadd hx hb dX9_readRoad_115 ?_
    refine lv_iload_n hx hb dX9_readRoad_116 rfl (lv_at hl 3 rfl) ?_
    refine lv_iadd hx hb dX9_readRoad_117 ?_
    refine lv_iload hx hb dX9_readRoad_118 (lv_at hl 0 rfl) ?_
    obtain ⟨g21, hf⟩ := gd_some hf
    refine Ms_6 S hK hP hD hS g21 dX9_readRoad_120 (fun H locs hP hD hS => ?_)
    obtain ⟨σ22, eσ22, hf⟩ := nm_some hf
    rw [← eσ22] at hP hD
    refine lv_aload_n hx hb dX9_readRoad_121 rfl (lv_at hl 1 rfl) ?_
    refine Mg_6 S hin hK hP f22 dX9_readRoad_122 ?_
    refine lv_iconst (v := 5) hx hb dX9_readRoad_125 (by decide) ?_
    refine lv_bipush (v := 8) hx hb dX9_readRoad_126 (by decide) ?_
    refine lv_iload_n hx hb dX9_readRoad_128 rfl (lv_at hl 3 rfl) ?_
    refine lv_imul hx hb dX9_readRoad_129 ?_
    refine lv_iadd hx hb dX9_readRoad_130 ?_
    refine lv_iload_n hx hb dX9_readRoad_131 rfl (lv_at hl 2 rfl) ?_
    refine lv_iadd hx hb dX9_readRoad_132 ?_
    refine lv_iload hx hb dX9_readRoad_133 (lv_at hl 0 rfl) ?_
    obtain ⟨g23, hf⟩ := gd_some hf
    refine Ms_6 S hK hP hD hS g23 dX9_readRoad_135 (fun H locs hP hD hS => ?_)
    obtain ⟨σ24, eσ24, hf⟩ := nm_some hf
    rw [← eσ24] at hP hD
    refine lv_aload_n hx hb dX9_readRoad_136 rfl (lv_at hl 1 rfl) ?_
    refine Mg_6 S hin hK hP f22 dX9_readRoad_137 ?_
    refine lv_iconst (v := 1) hx hb dX9_readRoad_140 (by decide) ?_
    refine lv_dup2_11 hx hb dX9_readRoad_141 rfl rfl ?_
    obtain ⟨g25, hf⟩ := gd_some hf
    refine Ml_6 S hK hP g25 dX9_readRoad_142 ?_
    refine lv_iconst (v := 1) hx hb dX9_readRoad_143 (by decide) ?_
    refine lv_iadd hx hb dX9_readRoad_144 ?_
    obtain ⟨g26, hf⟩ := gd_some hf
    refine Ms_6 S hK hP hD hS g26 dX9_readRoad_145 (fun H locs hP hD hS => ?_)
    obtain ⟨σ27, eσ27, hf⟩ := nm_some hf
    rw [← eσ27] at hP hD
    exact hre _ _ _ _ _ hf hP hD hS dX9_readRoad_146
  have b43 : ∀ (σ : MS) (l1 : Int32) (ls : Array Slot) (H : Heap) (locs : List Loc), FM_readRoad_43 σ l1 = some σ' → lv_has ls 5 [(0, .ref (h 0)), (1, .int l1)] → va_P D vwCl (mw h cI cZ σ) H → va_D A (mw h cI cZ σ) → va_S A s.heap H locs → W p l e R s m args below meth c H locs 0 0 Q (F0 m 43 ls []) := by
    intro σ l1 ls H locs hf hl hP hD hS
    unfold FM_readRoad_43 at hf
    refine lv_aload_n hx hb dX9_readRoad_43 rfl (lv_at hl 0 rfl) ?_
    refine lv_iconst (v := 0) hx hb dX9_readRoad_44 (by decide) ?_
    refine lv_bipush (v := 7) hx hb dX9_readRoad_45 (by decide) ?_
    obtain ⟨r11, σ12, hr11, hf⟩ := bd2_some hf
    refine kc_v (ci := 8) (q0 := 0) (n := 2) S hRf hRl hK hA hP hD hS hl [.int 0, .int 7] [] (kM_number l D h cI cZ σ 0 7 r11 σ12 hr11) gX9_readRoad_X9_number rfl (by decide +kernel) rfl ⟨by decide, by decide⟩ rfl rfl rfl rfl (Nat.le_of_ble_eq_true rfl) dX9_readRoad_47 (fun H locs hP hD hS => ?_)
    refine W.eq (g2 := F0 m 50 ls [.int r11]) rfl ?_
    refine lv_istore_n (lv' := [(2, .int r11), (0, .ref (h 0)), (1, .int l1)]) hx hb dX9_readRoad_50 rfl hl (by decide) rfl (fun ls hl => ?_)
    refine lv_aload_n hx hb dX9_readRoad_51 rfl (lv_at hl 1 rfl) ?_
    refine lv_iconst (v := 1) hx hb dX9_readRoad_52 (by decide) ?_
    refine lv_bipush (v := 90) hx hb dX9_readRoad_53 (by decide) ?_
    obtain ⟨r13, σ14, hr13, hf⟩ := bd2_some hf
    refine kc_v (ci := 8) (q0 := 0) (n := 2) S hRf hRl hK hA hP hD hS hl [.int 1, .int 90] [] (kM_number l D h cI cZ σ12 1 90 r13 σ14 hr13) gX9_readRoad_X9_number rfl (by decide +kernel) rfl ⟨by decide, by decide⟩ rfl rfl rfl rfl (Nat.le_of_ble_eq_true rfl) dX9_readRoad_55 (fun H locs hP hD hS => ?_)
    refine W.eq (g2 := F0 m 58 ls [.int r13]) rfl ?_
    refine lv_istore_n (lv' := [(3, .int r13), (2, .int r11), (0, .ref (h 0)), (1, .int l1)]) hx hb dX9_readRoad_58 rfl hl (by decide) rfl (fun ls hl => ?_)
    refine lv_aload_n hx hb dX9_readRoad_59 rfl (lv_at hl 2 rfl) ?_
    obtain ⟨σ16, hr15, hf⟩ := bi_some hf
    refine kc_v (ci := 8) (q0 := 0) (n := 0) S hRf hRl hK hA hP hD hS hl [] [] (kM_mustEnd l D h cI cZ σ14  σ16 hr15) gX9_readRoad_X9_mustEnd rfl (by decide +kernel) rfl ⟨by decide, by decide⟩ rfl rfl rfl rfl (Nat.le_of_ble_eq_true rfl) dX9_readRoad_60 (fun H locs hP hD hS => ?_)
    refine W.eq (g2 := F0 m 63 ls []) rfl ?_
    refine lv_aload_n hx hb dX9_readRoad_63 rfl (lv_at hl 2 rfl) ?_
    refine Mg_18 S hin hK hP f105 dX9_readRoad_64 ?_
    refine lv_if_ne (tgt := 146) hx hb dX9_readRoad_67 (by decide) (fun c17 => ?_) (fun c17 => ?_)
    · have hf := (if_neg c17).symm.trans hf
      exact hre _ _ _ _ _ hf hP hD hS dX9_readRoad_146
    · have hf := (if_pos c17).symm.trans hf
      refine lv_aload_n hx hb dX9_readRoad_70 rfl (lv_at hl 2 rfl) ?_
      refine Mg_6 S hin hK hP f22 dX9_readRoad_71 ?_
      refine lv_iconst (v := 5) hx hb dX9_readRoad_74 (by decide) ?_
      refine lv_bipush (v := 8) hx hb dX9_readRoad_75 (by decide) ?_
      refine lv_iload_n hx hb dX9_readRoad_77 rfl (lv_at hl 3 rfl) ?_
      refine lv_imul hx hb dX9_readRoad_78 ?_
      refine lv_iadd hx hb dX9_readRoad_79 ?_
      refine lv_iload_n hx hb dX9_readRoad_80 rfl (lv_at hl 1 rfl) ?_
      refine lv_iadd hx hb dX9_readRoad_81 ?_
      obtain ⟨g18, hf⟩ := gd_some hf
      refine Ml_6 S hK hP g18 dX9_readRoad_82 ?_
      refine lv_iload_n hx hb dX9_readRoad_83 rfl (lv_at hl 0 rfl) ?_
      refine lv_icmp_ge (tgt := 103) hx hb dX9_readRoad_84 (by decide) (fun c19 => ?_) (fun c19 => ?_)
      · have hf := (if_pos c19).symm.trans hf
        refine lv_iload_n hx hb dX9_readRoad_103 rfl (lv_at hl 0 rfl) ?_
        exact b104 _ _ _ _ _ _ _ hf (lv_sub hl [2, 3, 1] rfl) hP hD hS
      · have hf := (if_neg c19).symm.trans hf
        refine lv_aload_n hx hb dX9_readRoad_87 rfl (lv_at hl 2 rfl) ?_
        refine Mg_6 S hin hK hP f22 dX9_readRoad_88 ?_
        refine lv_iconst (v := 5) hx hb dX9_readRoad_91 (by decide) ?_
        refine lv_bipush (v := 8) hx hb dX9_readRoad_92 (by decide) ?_
        refine lv_iload_n hx hb dX9_readRoad_94 rfl (lv_at hl 3 rfl) ?_
        refine lv_imul hx hb dX9_readRoad_95 ?_
        refine lv_iadd hx hb dX9_readRoad_96 ?_
        refine lv_iload_n hx hb dX9_readRoad_97 rfl (lv_at hl 1 rfl) ?_
        refine lv_iadd hx hb dX9_readRoad_98 ?_
        obtain ⟨g20, hf⟩ := gd_some hf
        refine Ml_6 S hK hP g20 dX9_readRoad_99 ?_
        refine lv_goto (tgt := 104) hx hb dX9_readRoad_100 (by decide) ?_
        exact b104 _ _ _ _ _ _ _ hf (lv_sub hl [2, 3, 1] rfl) hP hD hS
  unfold FM_readRoad at hf
  refine lv_aload_n hx hb dX9_readRoad_0 rfl (lv_at hl 0 rfl) ?_
  refine lv_iconst (v := 1) hx hb dX9_readRoad_1 (by decide) ?_
  refine lv_bipush (v := 14) hx hb dX9_readRoad_2 (by decide) ?_
  obtain ⟨σ2, hr1, hf⟩ := bi_some hf
  refine kc_v (ci := 8) (q0 := 0) (n := 2) S hRf hRl hK hA hP hD hS hl [.int 1, .int 14] [] (kM_begins l D h cI cZ σ 1 14 σ2 hr1) gX9_readRoad_X9_begins rfl (by decide +kernel) rfl ⟨by decide, by decide⟩ rfl rfl rfl rfl (Nat.le_of_ble_eq_true rfl) dX9_readRoad_4 (fun H locs hP hD hS => ?_)
  refine W.eq (g2 := F0 m 7 ls []) rfl ?_
  refine lv_aload_n hx hb dX9_readRoad_7 rfl (lv_at hl 0 rfl) ?_
  refine lv_iconst (v := 0) hx hb dX9_readRoad_8 (by decide) ?_
  refine lv_bipush (v := 7) hx hb dX9_readRoad_9 (by decide) ?_
  obtain ⟨r3, σ4, hr3, hf⟩ := bd2_some hf
  refine kc_v (ci := 8) (q0 := 0) (n := 2) S hRf hRl hK hA hP hD hS hl [.int 0, .int 7] [] (kM_number l D h cI cZ σ2 0 7 r3 σ4 hr3) gX9_readRoad_X9_number rfl (by decide +kernel) rfl ⟨by decide, by decide⟩ rfl rfl rfl rfl (Nat.le_of_ble_eq_true rfl) dX9_readRoad_11 (fun H locs hP hD hS => ?_)
  refine W.eq (g2 := F0 m 14 ls [.int r3]) rfl ?_
  refine lv_istore_n (lv' := [(1, .int r3), (0, .ref (h 0))]) hx hb dX9_readRoad_14 rfl hl (by decide) rfl (fun ls hl => ?_)
  refine lv_aload_n hx hb dX9_readRoad_15 rfl (lv_at hl 1 rfl) ?_
  refine Mg_18 S hin hK hP f105 dX9_readRoad_16 ?_
  refine lv_if_ne (tgt := 43) hx hb dX9_readRoad_19 (by decide) (fun c5 => ?_) (fun c5 => ?_)
  · have hf := (if_neg c5).symm.trans hf
    exact b43 _ _ _ _ _ hf (lv_sub hl [1, 0] rfl) hP hD hS
  · have hf := (if_pos c5).symm.trans hf
    refine lv_aload_n hx hb dX9_readRoad_22 rfl (lv_at hl 1 rfl) ?_
    refine Mg_15 S hin hK hP f93 dX9_readRoad_23 ?_
    refine lv_iconst (v := 3) hx hb dX9_readRoad_26 (by decide) ?_
    refine lv_icmp_ne (tgt := 43) hx hb dX9_readRoad_27 (by decide) (fun c6 => ?_) (fun c6 => ?_)
    · have hf := (if_neg c6).symm.trans hf
      exact b43 _ _ _ _ _ hf (lv_sub hl [1, 0] rfl) hP hD hS
    · have hf := (if_pos c6).symm.trans hf
      refine lv_aload_n hx hb dX9_readRoad_30 rfl (lv_at hl 1 rfl) ?_
      obtain ⟨r7, hr7, hf⟩ := bi_some hf
      refine kc_v (ci := 8) (q0 := 0) (n := 0) S hRf hRl hK hA hP hD hS hl [] [] (kM_figures l D h cI cZ σ4  r7 hr7) gX9_readRoad_X9_figures rfl (by decide +kernel) rfl ⟨by decide, by decide⟩ rfl rfl rfl rfl (Nat.le_of_ble_eq_true rfl) dX9_readRoad_31 (fun H locs hP hD hS => ?_)
      refine W.eq (g2 := F0 m 34 ls [.int r7]) rfl ?_
      refine lv_iload_n hx hb dX9_readRoad_34 rfl (lv_at hl 0 rfl) ?_
      refine lv_icmp_ne (tgt := 43) hx hb dX9_readRoad_35 (by decide) (fun c8 => ?_) (fun c8 => ?_)
      · have hf := (if_neg c8).symm.trans hf
        exact b43 _ _ _ _ _ hf (lv_sub hl [1, 0] rfl) hP hD hS
      · have hf := (if_pos c8).symm.trans hf
        refine lv_aload_n hx hb dX9_readRoad_38 rfl (lv_at hl 1 rfl) ?_
        refine lv_iconst (v := 2) hx hb dX9_readRoad_39 (by decide) ?_
        obtain ⟨σ10, hr9, hf⟩ := bi_some hf
        refine kc_v (ci := 8) (q0 := 0) (n := 1) S hRf hRl hK hA hP hD hS hl [.int 2] [] (kM_bad l D h cI cZ σ4 2 σ10 hr9) gX9_readRoad_X9_bad rfl (by decide +kernel) rfl ⟨by decide, by decide⟩ rfl rfl rfl rfl (Nat.le_of_ble_eq_true rfl) dX9_readRoad_40 (fun H locs hP hD hS => ?_)
        refine W.eq (g2 := F0 m 43 ls []) rfl ?_
        exact b43 _ _ _ _ _ hf (lv_sub hl [1, 0] rfl) hP hD hS
def FM_readHolder (σ : MS) : Option MS :=
  Option.bind (FM_begins σ 2 6) fun (σ2 : MS) => bd2 (FM_number σ2 1 7) fun (r3 : Int32) (σ4 : MS) => Option.bind (FM_mustEnd σ4) fun (σ6 : MS) => if (σ6.1 18) = 0 then (gd (¬ ((2 : Int32) < 0 ∨ 147 ≤ Int32.toNatClampNeg 2)) (gd (¬ (((69 + (σ6.2 6 (Int32.toNatClampNeg 2))) : Int32) < 0 ∨ 147 ≤ Int32.toNatClampNeg (69 + (σ6.2 6 (Int32.toNatClampNeg 2))))) (nm (setA σ6 6 (Int32.toNatClampNeg (69 + (σ6.2 6 (Int32.toNatClampNeg 2)))) r3) fun (σ10 : MS) => gd (¬ ((2 : Int32) < 0 ∨ 147 ≤ Int32.toNatClampNeg 2)) (gd (¬ ((2 : Int32) < 0 ∨ 147 ≤ Int32.toNatClampNeg 2)) (nm (setA σ10 6 (Int32.toNatClampNeg 2) ((σ10.2 6 (Int32.toNatClampNeg 2)) + 1)) fun (σ13 : MS) => some σ13))))) else (some σ6)
set_option maxHeartbeats 4000000 in
set_option maxRecDepth 100000 in
theorem kM_readHolder (l : Launch) (D : va_G) (h : Nat → Nat) (cI cZ : ClassId) (σ : MS)  (σ' : MS) (hf : FM_readHolder σ = some σ') : KK l D [(cI, .int), (cZ, .boolean)] yX9_readHolder wsX9_readHolder 4 86 [.ref (h 0)] (mw h cI cZ σ) none (mw h cI cZ σ') := by
  refine KK.ofV (own := RX9) (cc := cX9_readHolder) (maxL := 2) (by decide) rfl rfl (Nat.le_of_ble_eq_true rfl) ?_
  intro p e s m args below meth c R Q A ls S hRf hRl hK hA hP hD hS hl hret
  obtain ⟨hx, hb, hml, hown, hts⟩ := id S
  have hin : ∀ w ∈ wsX90, w ∈ wsX9_readHolder := fun w hw => List.mem_cons_of_mem _ (List.mem_append_right _ hw)
  have f105 := hts (.fieldLink RX9 105 "PenniesAwayModel" "fault" "I") (by decide +kernel)
  have f22 := hts (.fieldLink RX9 22 "PenniesAwayModel" "fresh" "[I") (by decide +kernel)
  have hl : lv_has ls 2 [(0, .ref (h 0))] := hl
  have hre : ∀ (σx : MS) (pc : Nat) (ls : Array Slot) (H : Heap) (locs : List Loc), (some σx : Option MS) = some σ' → va_P D vwCl (mw h cI cZ σx) H → va_D A (mw h cI cZ σx) → va_S A s.heap H locs → decode cX9_readHolder pc = .ok (.return_, 1) → W p l e R s m args below meth c H locs 0 0 Q (F0 m pc ls []) := by intro σx pc ls H locs he; cases he; exact hret pc ls H locs
  unfold FM_readHolder at hf
  refine lv_aload_n hx hb dX9_readHolder_0 rfl (lv_at hl 0 rfl) ?_
  refine lv_iconst (v := 2) hx hb dX9_readHolder_1 (by decide) ?_
  refine lv_bipush (v := 6) hx hb dX9_readHolder_2 (by decide) ?_
  obtain ⟨σ2, hr1, hf⟩ := bi_some hf
  refine kc_v (ci := 8) (q0 := 0) (n := 2) S hRf hRl hK hA hP hD hS hl [.int 2, .int 6] [] (kM_begins l D h cI cZ σ 2 6 σ2 hr1) gX9_readHolder_X9_begins rfl (by decide +kernel) rfl ⟨by decide, by decide⟩ rfl rfl rfl rfl (Nat.le_of_ble_eq_true rfl) dX9_readHolder_4 (fun H locs hP hD hS => ?_)
  refine W.eq (g2 := F0 m 7 ls []) rfl ?_
  refine lv_aload_n hx hb dX9_readHolder_7 rfl (lv_at hl 0 rfl) ?_
  refine lv_iconst (v := 1) hx hb dX9_readHolder_8 (by decide) ?_
  refine lv_bipush (v := 7) hx hb dX9_readHolder_9 (by decide) ?_
  obtain ⟨r3, σ4, hr3, hf⟩ := bd2_some hf
  refine kc_v (ci := 8) (q0 := 0) (n := 2) S hRf hRl hK hA hP hD hS hl [.int 1, .int 7] [] (kM_number l D h cI cZ σ2 1 7 r3 σ4 hr3) gX9_readHolder_X9_number rfl (by decide +kernel) rfl ⟨by decide, by decide⟩ rfl rfl rfl rfl (Nat.le_of_ble_eq_true rfl) dX9_readHolder_11 (fun H locs hP hD hS => ?_)
  refine W.eq (g2 := F0 m 14 ls [.int r3]) rfl ?_
  refine lv_istore_n (lv' := [(1, .int r3), (0, .ref (h 0))]) hx hb dX9_readHolder_14 rfl hl (by decide) rfl (fun ls hl => ?_)
  refine lv_aload_n hx hb dX9_readHolder_15 rfl (lv_at hl 1 rfl) ?_
  obtain ⟨σ6, hr5, hf⟩ := bi_some hf
  refine kc_v (ci := 8) (q0 := 0) (n := 0) S hRf hRl hK hA hP hD hS hl [] [] (kM_mustEnd l D h cI cZ σ4  σ6 hr5) gX9_readHolder_X9_mustEnd rfl (by decide +kernel) rfl ⟨by decide, by decide⟩ rfl rfl rfl rfl (Nat.le_of_ble_eq_true rfl) dX9_readHolder_16 (fun H locs hP hD hS => ?_)
  refine W.eq (g2 := F0 m 19 ls []) rfl ?_
  refine lv_aload_n hx hb dX9_readHolder_19 rfl (lv_at hl 1 rfl) ?_
  refine Mg_18 S hin hK hP f105 dX9_readHolder_20 ?_
  refine lv_if_ne (tgt := 51) hx hb dX9_readHolder_23 (by decide) (fun c7 => ?_) (fun c7 => ?_)
  · have hf := (if_neg c7).symm.trans hf
    exact hre _ _ _ _ _ hf hP hD hS dX9_readHolder_51
  · have hf := (if_pos c7).symm.trans hf
    refine lv_aload_n hx hb dX9_readHolder_26 rfl (lv_at hl 1 rfl) ?_
    refine Mg_6 S hin hK hP f22 dX9_readHolder_27 ?_
    refine lv_bipush (v := 69) hx hb dX9_readHolder_30 (by decide) ?_
    refine lv_aload_n hx hb dX9_readHolder_32 rfl (lv_at hl 1 rfl) ?_
    refine Mg_6 S hin hK hP f22 dX9_readHolder_33 ?_
    refine lv_iconst (v := 2) hx hb dX9_readHolder_36 (by decide) ?_
    obtain ⟨g8, hf⟩ := gd_some hf
    refine Ml_6 S hK hP g8 dX9_readHolder_37 ?_
    refine lv_iadd hx hb dX9_readHolder_38 ?_
    refine lv_iload_n hx hb dX9_readHolder_39 rfl (lv_at hl 0 rfl) ?_
    obtain ⟨g9, hf⟩ := gd_some hf
    refine Ms_6 S hK hP hD hS g9 dX9_readHolder_40 (fun H locs hP hD hS => ?_)
    obtain ⟨σ10, eσ10, hf⟩ := nm_some hf
    rw [← eσ10] at hP hD
    refine lv_aload_n hx hb dX9_readHolder_41 rfl (lv_at hl 1 rfl) ?_
    refine Mg_6 S hin hK hP f22 dX9_readHolder_42 ?_
    refine lv_iconst (v := 2) hx hb dX9_readHolder_45 (by decide) ?_
    refine lv_dup2_11 hx hb dX9_readHolder_46 rfl rfl ?_
    obtain ⟨g11, hf⟩ := gd_some hf
    refine Ml_6 S hK hP g11 dX9_readHolder_47 ?_
    refine lv_iconst (v := 1) hx hb dX9_readHolder_48 (by decide) ?_
    refine lv_iadd hx hb dX9_readHolder_49 ?_
    obtain ⟨g12, hf⟩ := gd_some hf
    refine Ms_6 S hK hP hD hS g12 dX9_readHolder_50 (fun H locs hP hD hS => ?_)
    obtain ⟨σ13, eσ13, hf⟩ := nm_some hf
    rw [← eσ13] at hP hD
    exact hre _ _ _ _ _ hf hP hD hS dX9_readHolder_51
def FM_readCoin_37 (σ : MS) (l1 : Int32) : Option MS :=
  gd (¬ ((2 : Int32) < 0 ∨ 147 ≤ Int32.toNatClampNeg 2)) (bd2 (FM_number σ 0 ((σ.2 6 (Int32.toNatClampNeg 2)) - 1)) fun (r10 : Int32) (σ11 : MS) => bd2 (FM_number σ11 0 400) fun (r12 : Int32) (σ13 : MS) => Option.bind (FM_mustEnd σ13) fun (σ15 : MS) => if (σ15.1 18) = 0 then (gd (¬ ((3 : Int32) < 0 ∨ 147 ≤ Int32.toNatClampNeg 3)) (nm (75 + (6 * (σ15.2 6 (Int32.toNatClampNeg 3)))) fun (x18 : Int32) => gd (¬ ((x18 : Int32) < 0 ∨ 147 ≤ Int32.toNatClampNeg x18)) (nm (setA σ15 6 (Int32.toNatClampNeg x18) l1) fun (σ20 : MS) => gd (¬ (((x18 + 1) : Int32) < 0 ∨ 147 ≤ Int32.toNatClampNeg (x18 + 1))) (nm (setA σ20 6 (Int32.toNatClampNeg (x18 + 1)) r10) fun (σ22 : MS) => gd (¬ (((x18 + 2) : Int32) < 0 ∨ 147 ≤ Int32.toNatClampNeg (x18 + 2))) (nm (setA σ22 6 (Int32.toNatClampNeg (x18 + 2)) r12) fun (σ24 : MS) => gd (¬ ((3 : Int32) < 0 ∨ 147 ≤ Int32.toNatClampNeg 3)) (gd (¬ ((3 : Int32) < 0 ∨ 147 ≤ Int32.toNatClampNeg 3)) (nm (setA σ24 6 (Int32.toNatClampNeg 3) ((σ24.2 6 (Int32.toNatClampNeg 3)) + 1)) fun (σ27 : MS) => some σ27))))))) else (some σ15))
def FM_readCoin_34 (σ : MS) (l1 : Int32) (s0 : Int32) : Option MS :=
  Option.bind (FM_must σ s0) fun (σ8 : MS) => FM_readCoin_37 σ8 l1
def FM_readCoin (σ : MS) : Option MS :=
  Option.bind (FM_begins σ 3 12) fun (σ2 : MS) => Option.bind (FM_name σ2) fun (r3 : Int64) => Option.bind (FM_kindBy r3) fun (r4 : Int32) => if (σ2.1 18) = 0 then (if r4 = (-1000000) then (FM_readCoin_34 σ2 r4 0) else (FM_readCoin_34 σ2 r4 1)) else (FM_readCoin_37 σ2 r4)
set_option maxHeartbeats 4000000 in
set_option maxRecDepth 100000 in
theorem kM_readCoin (l : Launch) (D : va_G) (h : Nat → Nat) (cI cZ : ClassId) (σ : MS)  (σ' : MS) (hf : FM_readCoin σ = some σ') : KK l D [(cI, .int), (cZ, .boolean)] yX9_readCoin wsX9_readCoin 4 86 [.ref (h 0)] (mw h cI cZ σ) none (mw h cI cZ σ') := by
  refine KK.ofV (own := RX9) (cc := cX9_readCoin) (maxL := 5) (by decide) rfl rfl (Nat.le_of_ble_eq_true rfl) ?_
  intro p e s m args below meth c R Q A ls S hRf hRl hK hA hP hD hS hl hret
  obtain ⟨hx, hb, hml, hown, hts⟩ := id S
  have hin : ∀ w ∈ wsX90, w ∈ wsX9_readCoin := fun w hw => List.mem_cons_of_mem _ (List.mem_append_right _ hw)
  have f105 := hts (.fieldLink RX9 105 "PenniesAwayModel" "fault" "I") (by decide +kernel)
  have c83 := hts (.constant RX9 83 (-1000000)) (by decide +kernel)
  have f22 := hts (.fieldLink RX9 22 "PenniesAwayModel" "fresh" "[I") (by decide +kernel)
  have hl : lv_has ls 5 [(0, .ref (h 0))] := hl
  have hre : ∀ (σx : MS) (pc : Nat) (ls : Array Slot) (H : Heap) (locs : List Loc), (some σx : Option MS) = some σ' → va_P D vwCl (mw h cI cZ σx) H → va_D A (mw h cI cZ σx) → va_S A s.heap H locs → decode cX9_readCoin pc = .ok (.return_, 1) → W p l e R s m args below meth c H locs 0 0 Q (F0 m pc ls []) := by intro σx pc ls H locs he; cases he; exact hret pc ls H locs
  have b37 : ∀ (σ : MS) (l1 : Int32) (ls : Array Slot) (H : Heap) (locs : List Loc), FM_readCoin_37 σ l1 = some σ' → lv_has ls 5 [(0, .ref (h 0)), (1, .int l1)] → va_P D vwCl (mw h cI cZ σ) H → va_D A (mw h cI cZ σ) → va_S A s.heap H locs → W p l e R s m args below meth c H locs 0 0 Q (F0 m 37 ls []) := by
    intro σ l1 ls H locs hf hl hP hD hS
    unfold FM_readCoin_37 at hf
    refine lv_aload_n hx hb dX9_readCoin_37 rfl (lv_at hl 0 rfl) ?_
    refine lv_iconst (v := 0) hx hb dX9_readCoin_38 (by decide) ?_
    refine lv_aload_n hx hb dX9_readCoin_39 rfl (lv_at hl 0 rfl) ?_
    refine Mg_6 S hin hK hP f22 dX9_readCoin_40 ?_
    refine lv_iconst (v := 2) hx hb dX9_readCoin_43 (by decide) ?_
    obtain ⟨g9, hf⟩ := gd_some hf
    refine Ml_6 S hK hP g9 dX9_readCoin_44 ?_
    refine lv_iconst (v := 1) hx hb dX9_readCoin_45 (by decide) ?_
    refine lv_isub hx hb dX9_readCoin_46 ?_
    obtain ⟨r10, σ11, hr10, hf⟩ := bd2_some hf
    refine kc_v (ci := 8) (q0 := 0) (n := 2) S hRf hRl hK hA hP hD hS hl [.int 0, .int ((σ.2 6 (Int32.toNatClampNeg 2)) - 1)] [] (kM_number l D h cI cZ σ 0 ((σ.2 6 (Int32.toNatClampNeg 2)) - 1) r10 σ11 hr10) gX9_readCoin_X9_number rfl (by decide +kernel) rfl ⟨by decide, by decide⟩ rfl rfl rfl rfl (Nat.le_of_ble_eq_true rfl) dX9_readCoin_47 (fun H locs hP hD hS => ?_)
    refine W.eq (g2 := F0 m 50 ls [.int r10]) rfl ?_
    refine lv_istore_n (lv' := [(2, .int r10), (0, .ref (h 0)), (1, .int l1)]) hx hb dX9_readCoin_50 rfl hl (by decide) rfl (fun ls hl => ?_)
    refine lv_aload_n hx hb dX9_readCoin_51 rfl (lv_at hl 1 rfl) ?_
    refine lv_iconst (v := 0) hx hb dX9_readCoin_52 (by decide) ?_
    refine lv_sipush (v := 400) hx hb dX9_readCoin_53 (by decide) ?_
    obtain ⟨r12, σ13, hr12, hf⟩ := bd2_some hf
    refine kc_v (ci := 8) (q0 := 0) (n := 2) S hRf hRl hK hA hP hD hS hl [.int 0, .int 400] [] (kM_number l D h cI cZ σ11 0 400 r12 σ13 hr12) gX9_readCoin_X9_number rfl (by decide +kernel) rfl ⟨by decide, by decide⟩ rfl rfl rfl rfl (Nat.le_of_ble_eq_true rfl) dX9_readCoin_56 (fun H locs hP hD hS => ?_)
    refine W.eq (g2 := F0 m 59 ls [.int r12]) rfl ?_
    refine lv_istore_n (lv' := [(3, .int r12), (2, .int r10), (0, .ref (h 0)), (1, .int l1)]) hx hb dX9_readCoin_59 rfl hl (by decide) rfl (fun ls hl => ?_)
    refine lv_aload_n hx hb dX9_readCoin_60 rfl (lv_at hl 2 rfl) ?_
    obtain ⟨σ15, hr14, hf⟩ := bi_some hf
    refine kc_v (ci := 8) (q0 := 0) (n := 0) S hRf hRl hK hA hP hD hS hl [] [] (kM_mustEnd l D h cI cZ σ13  σ15 hr14) gX9_readCoin_X9_mustEnd rfl (by decide +kernel) rfl ⟨by decide, by decide⟩ rfl rfl rfl rfl (Nat.le_of_ble_eq_true rfl) dX9_readCoin_61 (fun H locs hP hD hS => ?_)
    refine W.eq (g2 := F0 m 64 ls []) rfl ?_
    refine lv_aload_n hx hb dX9_readCoin_64 rfl (lv_at hl 2 rfl) ?_
    refine Mg_18 S hin hK hP f105 dX9_readCoin_65 ?_
    refine lv_if_ne (tgt := 123) hx hb dX9_readCoin_68 (by decide) (fun c16 => ?_) (fun c16 => ?_)
    · have hf := (if_neg c16).symm.trans hf
      exact hre _ _ _ _ _ hf hP hD hS dX9_readCoin_123
    · have hf := (if_pos c16).symm.trans hf
      refine lv_bipush (v := 75) hx hb dX9_readCoin_71 (by decide) ?_
      refine lv_bipush (v := 6) hx hb dX9_readCoin_73 (by decide) ?_
      refine lv_aload_n hx hb dX9_readCoin_75 rfl (lv_at hl 2 rfl) ?_
      refine Mg_6 S hin hK hP f22 dX9_readCoin_76 ?_
      refine lv_iconst (v := 3) hx hb dX9_readCoin_79 (by decide) ?_
      obtain ⟨g17, hf⟩ := gd_some hf
      refine Ml_6 S hK hP g17 dX9_readCoin_80 ?_
      refine lv_imul hx hb dX9_readCoin_81 ?_
      refine lv_iadd hx hb dX9_readCoin_82 ?_
      refine lv_topi (fun x18 ex18 => ?_)
      have hf := nm_at ex18 hf
      refine lv_istore (lv' := [(4, .int x18), (3, .int r12), (2, .int r10), (0, .ref (h 0)), (1, .int l1)]) hx hb dX9_readCoin_83 hl (by decide) rfl (fun ls hl => ?_)
      refine lv_aload_n hx hb dX9_readCoin_85 rfl (lv_at hl 3 rfl) ?_
      refine Mg_6 S hin hK hP f22 dX9_readCoin_86 ?_
      refine lv_iload hx hb dX9_readCoin_89 (lv_at hl 0 rfl) ?_
      refine lv_iload_n hx hb dX9_readCoin_91 rfl (lv_at hl 4 rfl) ?_
      obtain ⟨g19, hf⟩ := gd_some hf
      refine Ms_6 S hK hP hD hS g19 dX9_readCoin_92 (fun H locs hP hD hS => ?_)
      obtain ⟨σ20, eσ20, hf⟩ := nm_some hf
      rw [← eσ20] at hP hD
      refine lv_aload_n hx hb dX9_readCoin_93 rfl (lv_at hl 3 rfl) ?_
      refine Mg_6 S hin hK hP f22 dX9_readCoin_94 ?_
      refine lv_iload hx hb dX9_readCoin_97 (lv_at hl 0 rfl) ?_
      refine lv_iconst (v := 1) hx hb dX9_readCoin_99 (by decide) ?_
      refine lv_iadd hx hb dX9_readCoin_100 ?_
      refine lv_iload_n hx hb dX9_readCoin_101 rfl (lv_at hl 2 rfl) ?_
      obtain ⟨g21, hf⟩ := gd_some hf
      refine Ms_6 S hK hP hD hS g21 dX9_readCoin_102 (fun H locs hP hD hS => ?_)
      obtain ⟨σ22, eσ22, hf⟩ := nm_some hf
      rw [← eσ22] at hP hD
      refine lv_aload_n hx hb dX9_readCoin_103 rfl (lv_at hl 3 rfl) ?_
      refine Mg_6 S hin hK hP f22 dX9_readCoin_104 ?_
      refine lv_iload hx hb dX9_readCoin_107 (lv_at hl 0 rfl) ?_
      refine lv_iconst (v := 2) hx hb dX9_readCoin_109 (by decide) ?_
      refine lv_iadd hx hb dX9_readCoin_110 ?_
      refine lv_iload_n hx hb dX9_readCoin_111 rfl (lv_at hl 1 rfl) ?_
      obtain ⟨g23, hf⟩ := gd_some hf
      refine Ms_6 S hK hP hD hS g23 dX9_readCoin_112 (fun H locs hP hD hS => ?_)
      obtain ⟨σ24, eσ24, hf⟩ := nm_some hf
      rw [← eσ24] at hP hD
      refine lv_aload_n hx hb dX9_readCoin_113 rfl (lv_at hl 3 rfl) ?_
      refine Mg_6 S hin hK hP f22 dX9_readCoin_114 ?_
      refine lv_iconst (v := 3) hx hb dX9_readCoin_117 (by decide) ?_
      refine lv_dup2_11 hx hb dX9_readCoin_118 rfl rfl ?_
      obtain ⟨g25, hf⟩ := gd_some hf
      refine Ml_6 S hK hP g25 dX9_readCoin_119 ?_
      refine lv_iconst (v := 1) hx hb dX9_readCoin_120 (by decide) ?_
      refine lv_iadd hx hb dX9_readCoin_121 ?_
      obtain ⟨g26, hf⟩ := gd_some hf
      refine Ms_6 S hK hP hD hS g26 dX9_readCoin_122 (fun H locs hP hD hS => ?_)
      obtain ⟨σ27, eσ27, hf⟩ := nm_some hf
      rw [← eσ27] at hP hD
      exact hre _ _ _ _ _ hf hP hD hS dX9_readCoin_123
  have b34 : ∀ (σ : MS) (l1 : Int32) (s0 : Int32) (ls : Array Slot) (H : Heap) (locs : List Loc), FM_readCoin_34 σ l1 s0 = some σ' → lv_has ls 5 [(0, .ref (h 0)), (1, .int l1)] → va_P D vwCl (mw h cI cZ σ) H → va_D A (mw h cI cZ σ) → va_S A s.heap H locs → W p l e R s m args below meth c H locs 0 0 Q (F0 m 34 ls [.int s0, .ref (h 0)]) := by
    intro σ l1 s0 ls H locs hf hl hP hD hS
    unfold FM_readCoin_34 at hf
    obtain ⟨σ8, hr7, hf⟩ := bi_some hf
    refine kc_v (ci := 8) (q0 := 0) (n := 1) S hRf hRl hK hA hP hD hS hl [.int s0] [] (kM_must l D h cI cZ σ s0 σ8 hr7) gX9_readCoin_X9_must rfl (by decide +kernel) rfl ⟨by decide, by decide⟩ rfl rfl rfl rfl (Nat.le_of_ble_eq_true rfl) dX9_readCoin_34 (fun H locs hP hD hS => ?_)
    refine W.eq (g2 := F0 m 37 ls []) rfl ?_
    exact b37 _ _ _ _ _ hf (lv_sub hl [0, 1] rfl) hP hD hS
  unfold FM_readCoin at hf
  refine lv_aload_n hx hb dX9_readCoin_0 rfl (lv_at hl 0 rfl) ?_
  refine lv_iconst (v := 3) hx hb dX9_readCoin_1 (by decide) ?_
  refine lv_bipush (v := 12) hx hb dX9_readCoin_2 (by decide) ?_
  obtain ⟨σ2, hr1, hf⟩ := bi_some hf
  refine kc_v (ci := 8) (q0 := 0) (n := 2) S hRf hRl hK hA hP hD hS hl [.int 3, .int 12] [] (kM_begins l D h cI cZ σ 3 12 σ2 hr1) gX9_readCoin_X9_begins rfl (by decide +kernel) rfl ⟨by decide, by decide⟩ rfl rfl rfl rfl (Nat.le_of_ble_eq_true rfl) dX9_readCoin_4 (fun H locs hP hD hS => ?_)
  refine W.eq (g2 := F0 m 7 ls []) rfl ?_
  refine lv_aload_n hx hb dX9_readCoin_7 rfl (lv_at hl 0 rfl) ?_
  obtain ⟨r3, hr3, hf⟩ := bi_some hf
  refine kc_v (ci := 8) (q0 := 0) (n := 0) S hRf hRl hK hA hP hD hS hl [] [] (kM_name l D h cI cZ σ2  r3 hr3) gX9_readCoin_X9_name rfl (by decide +kernel) rfl ⟨by decide, by decide⟩ rfl rfl rfl rfl (Nat.le_of_ble_eq_true rfl) dX9_readCoin_8 (fun H locs hP hD hS => ?_)
  refine W.eq (g2 := F0 m 11 ls [.long r3]) rfl ?_
  obtain ⟨r4, hr4, hf⟩ := bi_some hf
  refine kc_s (n := 1) S hRf hRl hK hA hP hD hS hl [.long r3] [] (kM_kindBy l D _ _ r3 r4 hr4) gX9_readCoin_X9_kindBy rfl (by decide +kernel) rfl ⟨by decide, by decide⟩ rfl (Nat.le_of_ble_eq_true rfl) dX9_readCoin_11 (fun H locs hP hD hS => ?_)
  refine W.eq (g2 := F0 m 14 ls [.int r4]) rfl ?_
  refine lv_istore_n (lv' := [(1, .int r4), (0, .ref (h 0))]) hx hb dX9_readCoin_14 rfl hl (by decide) rfl (fun ls hl => ?_)
  refine lv_aload_n hx hb dX9_readCoin_15 rfl (lv_at hl 1 rfl) ?_
  refine Mg_18 S hin hK hP f105 dX9_readCoin_16 ?_
  refine lv_if_ne (tgt := 37) hx hb dX9_readCoin_19 (by decide) (fun c5 => ?_) (fun c5 => ?_)
  · have hf := (if_neg c5).symm.trans hf
    exact b37 _ _ _ _ _ hf (lv_sub hl [1, 0] rfl) hP hD hS
  · have hf := (if_pos c5).symm.trans hf
    refine lv_aload_n hx hb dX9_readCoin_22 rfl (lv_at hl 1 rfl) ?_
    refine lv_iload_n hx hb dX9_readCoin_23 rfl (lv_at hl 0 rfl) ?_
    refine lv_ldc (v := (-1000000)) hx hb hown c83 dX9_readCoin_24 ?_
    refine lv_icmp_eq (tgt := 33) hx hb dX9_readCoin_26 (by decide) (fun c6 => ?_) (fun c6 => ?_)
    · have hf := (if_pos c6).symm.trans hf
      refine lv_iconst (v := 0) hx hb dX9_readCoin_33 (by decide) ?_
      exact b34 _ _ _ _ _ _ hf (lv_sub hl [1, 0] rfl) hP hD hS
    · have hf := (if_neg c6).symm.trans hf
      refine lv_iconst (v := 1) hx hb dX9_readCoin_29 (by decide) ?_
      refine lv_goto (tgt := 34) hx hb dX9_readCoin_30 (by decide) ?_
      exact b34 _ _ _ _ _ _ hf (lv_sub hl [1, 0] rfl) hP hD hS
def FM_layFar_101 (ag2 : MS → Int32 → Option MS) (ag10 : MS → Int32 → Int32 → Option MS) (ag18 : MS → Int32 → Int32 → Int32 → Option MS) (σ : MS) (l1 : Int32) (l2 : Int32) (l3 : Int32) (s0 : Int32) (s1 : Int32) : Option MS :=
  gd (¬ ((s1 : Int32) < 0 ∨ 147 ≤ Int32.toNatClampNeg s1)) (nm (setA σ 6 (Int32.toNatClampNeg s1) s0) fun (σ13 : MS) => nm (l3 + 1) fun (x14 : Int32) => ag18 σ13 l1 l2 x14)
def FM_layFar_18 (ag2 : MS → Int32 → Option MS) (ag10 : MS → Int32 → Int32 → Option MS) : Nat → MS → Int32 → Int32 → Int32 → Option MS
  | 0, _, _, _, _ => none
  | n + 1, σ, l1, l2, l3 => if 8 ≤ l3 then (nm (l2 + 1) fun (x5 : Int32) => ag10 σ l1 x5) else (gd (¬ ((((5 + (8 * l2)) + l1) : Int32) < 0 ∨ 147 ≤ Int32.toNatClampNeg ((5 + (8 * l2)) + l1))) (gd (¬ ((((5 + (8 * l1)) + l3) : Int32) < 0 ∨ 147 ≤ Int32.toNatClampNeg ((5 + (8 * l1)) + l3))) (nm ((σ.2 6 (Int32.toNatClampNeg ((5 + (8 * l2)) + l1))) + (σ.2 6 (Int32.toNatClampNeg ((5 + (8 * l1)) + l3)))) fun (x8 : Int32) => gd (¬ ((((5 + (8 * l2)) + l3) : Int32) < 0 ∨ 147 ≤ Int32.toNatClampNeg ((5 + (8 * l2)) + l3))) (if (σ.2 6 (Int32.toNatClampNeg ((5 + (8 * l2)) + l3))) ≤ x8 then (gd (¬ ((((5 + (8 * l2)) + l3) : Int32) < 0 ∨ 147 ≤ Int32.toNatClampNeg ((5 + (8 * l2)) + l3))) (FM_layFar_101 ag2 ag10 (FM_layFar_18 ag2 ag10 n) σ l1 l2 l3 (σ.2 6 (Int32.toNatClampNeg ((5 + (8 * l2)) + l3))) ((5 + (8 * l2)) + l3))) else (FM_layFar_101 ag2 ag10 (FM_layFar_18 ag2 ag10 n) σ l1 l2 l3 x8 ((5 + (8 * l2)) + l3))))))
def FM_layFar_10 (ag2 : MS → Int32 → Option MS) : Nat → MS → Int32 → Int32 → Option MS
  | 0, _, _, _ => none
  | n + 1, σ, l1, l2 => if 8 ≤ l2 then (nm (l1 + 1) fun (x3 : Int32) => ag2 σ x3) else (FM_layFar_18 ag2 (FM_layFar_10 ag2 n) fuelN σ l1 l2 0)
def FM_layFar_2  : Nat → MS → Int32 → Option MS
  | 0, _, _ => none
  | n + 1, σ, l1 => if 8 ≤ l1 then (some σ) else (FM_layFar_10 (FM_layFar_2 n) fuelN σ l1 0)
def FM_layFar (σ : MS) : Option MS :=
  FM_layFar_2 fuelN σ 0
set_option maxHeartbeats 4000000 in
set_option maxRecDepth 100000 in
theorem kM_layFar (l : Launch) (D : va_G) (h : Nat → Nat) (cI cZ : ClassId) (σ : MS)  (σ' : MS) (hf : FM_layFar σ = some σ') : KK l D [(cI, .int), (cZ, .boolean)] yX9_layFar wsX9_layFar 0 0 [.ref (h 0)] (mw h cI cZ σ) none (mw h cI cZ σ') := by
  refine KK.ofV (own := RX9) (cc := cX9_layFar) (maxL := 5) (by decide) rfl rfl (Nat.le_of_ble_eq_true rfl) ?_
  intro p e s m args below meth c R Q A ls S hRf hRl hK hA hP hD hS hl hret
  obtain ⟨hx, hb, hml, hown, hts⟩ := id S
  have hin : ∀ w ∈ wsX90, w ∈ wsX9_layFar := fun w hw => List.mem_cons_of_mem _ (List.mem_append_right _ hw)
  have f22 := hts (.fieldLink RX9 22 "PenniesAwayModel" "fresh" "[I") (by decide +kernel)
  have hl : lv_has ls 5 [(0, .ref (h 0))] := hl
  have hre : ∀ (σx : MS) (pc : Nat) (ls : Array Slot) (H : Heap) (locs : List Loc), (some σx : Option MS) = some σ' → va_P D vwCl (mw h cI cZ σx) H → va_D A (mw h cI cZ σx) → va_S A s.heap H locs → decode cX9_layFar pc = .ok (.return_, 1) → W p l e R s m args below meth c H locs 0 0 Q (F0 m pc ls []) := by intro σx pc ls H locs he; cases he; exact hret pc ls H locs
  have b101 : ∀ (ag2 : MS → Int32 → Option MS) (hag2 : ∀ (σ : MS) (l1 : Int32) (ls : Array Slot) (H : Heap) (locs : List Loc), ag2 σ l1 = some σ' → lv_has ls 5 [(0, .ref (h 0)), (1, .int l1)] → va_P D vwCl (mw h cI cZ σ) H → va_D A (mw h cI cZ σ) → va_S A s.heap H locs → W p l e R s m args below meth c H locs 0 0 Q (F0 m 2 ls [])) (ag10 : MS → Int32 → Int32 → Option MS) (hag10 : ∀ (σ : MS) (l1 : Int32) (l2 : Int32) (ls : Array Slot) (H : Heap) (locs : List Loc), ag10 σ l1 l2 = some σ' → lv_has ls 5 [(0, .ref (h 0)), (1, .int l1), (2, .int l2)] → va_P D vwCl (mw h cI cZ σ) H → va_D A (mw h cI cZ σ) → va_S A s.heap H locs → W p l e R s m args below meth c H locs 0 0 Q (F0 m 10 ls [])) (ag18 : MS → Int32 → Int32 → Int32 → Option MS) (hag18 : ∀ (σ : MS) (l1 : Int32) (l2 : Int32) (l3 : Int32) (ls : Array Slot) (H : Heap) (locs : List Loc), ag18 σ l1 l2 l3 = some σ' → lv_has ls 5 [(0, .ref (h 0)), (1, .int l1), (2, .int l2), (3, .int l3)] → va_P D vwCl (mw h cI cZ σ) H → va_D A (mw h cI cZ σ) → va_S A s.heap H locs → W p l e R s m args below meth c H locs 0 0 Q (F0 m 18 ls [])), ∀ (σ : MS) (l1 : Int32) (l2 : Int32) (l3 : Int32) (s0 : Int32) (s1 : Int32) (ls : Array Slot) (H : Heap) (locs : List Loc), FM_layFar_101 ag2 ag10 ag18 σ l1 l2 l3 s0 s1 = some σ' → lv_has ls 5 [(0, .ref (h 0)), (1, .int l1), (2, .int l2), (3, .int l3)] → va_P D vwCl (mw h cI cZ σ) H → va_D A (mw h cI cZ σ) → va_S A s.heap H locs → W p l e R s m args below meth c H locs 0 0 Q (F0 m 101 ls [.int s0, .int s1, .ref (h 6)]) := by
    intro ag2 hag2 ag10 hag10 ag18 hag18 σ l1 l2 l3 s0 s1 ls H locs hf hl hP hD hS
    unfold FM_layFar_101 at hf
    obtain ⟨g12, hf⟩ := gd_some hf
    refine Ms_6 S hK hP hD hS g12 dX9_layFar_101 (fun H locs hP hD hS => ?_)
    obtain ⟨σ13, eσ13, hf⟩ := nm_some hf
    rw [← eσ13] at hP hD
    obtain ⟨x14, ex14, hf⟩ := nm_some hf
    refine lv_iinc (v := x14) (lv' := [(3, .int x14), (0, .ref (h 0)), (1, .int l1), (2, .int l2)]) hx hb dX9_layFar_102 hl (k := 3) rfl (by rw [ex14]; rfl) (by decide) rfl (fun ls hl => ?_)
    refine lv_goto (tgt := 18) hx hb dX9_layFar_105 (by decide) ?_
    exact hag18 _ _ _ _ _ _ _ hf (lv_sub hl [1, 2, 3, 0] rfl) hP hD hS
  have b18 : ∀ (ag2 : MS → Int32 → Option MS) (hag2 : ∀ (σ : MS) (l1 : Int32) (ls : Array Slot) (H : Heap) (locs : List Loc), ag2 σ l1 = some σ' → lv_has ls 5 [(0, .ref (h 0)), (1, .int l1)] → va_P D vwCl (mw h cI cZ σ) H → va_D A (mw h cI cZ σ) → va_S A s.heap H locs → W p l e R s m args below meth c H locs 0 0 Q (F0 m 2 ls [])) (ag10 : MS → Int32 → Int32 → Option MS) (hag10 : ∀ (σ : MS) (l1 : Int32) (l2 : Int32) (ls : Array Slot) (H : Heap) (locs : List Loc), ag10 σ l1 l2 = some σ' → lv_has ls 5 [(0, .ref (h 0)), (1, .int l1), (2, .int l2)] → va_P D vwCl (mw h cI cZ σ) H → va_D A (mw h cI cZ σ) → va_S A s.heap H locs → W p l e R s m args below meth c H locs 0 0 Q (F0 m 10 ls [])) (n : Nat), ∀ (σ : MS) (l1 : Int32) (l2 : Int32) (l3 : Int32) (ls : Array Slot) (H : Heap) (locs : List Loc), FM_layFar_18 ag2 ag10 n σ l1 l2 l3 = some σ' → lv_has ls 5 [(0, .ref (h 0)), (1, .int l1), (2, .int l2), (3, .int l3)] → va_P D vwCl (mw h cI cZ σ) H → va_D A (mw h cI cZ σ) → va_S A s.heap H locs → W p l e R s m args below meth c H locs 0 0 Q (F0 m 18 ls []) := by
    intro ag2 hag2 ag10 hag10 n
    induction n with
    | zero => intro σ l1 l2 l3 ls H locs hf; exact absurd hf (by simp [FM_layFar_18])
    | succ n ih =>
      intro σ l1 l2 l3 ls H locs hf hl hP hD hS
      rw [FM_layFar_18] at hf
      refine lv_iload_n hx hb dX9_layFar_18 rfl (lv_at hl 3 rfl) ?_
      refine lv_bipush (v := 8) hx hb dX9_layFar_19 (by decide) ?_
      refine lv_icmp_ge (tgt := 108) hx hb dX9_layFar_21 (by decide) (fun c4 => ?_) (fun c4 => ?_)
      · have hf := (if_pos c4).symm.trans hf
        obtain ⟨x5, ex5, hf⟩ := nm_some hf
        refine lv_iinc (v := x5) (lv' := [(2, .int x5), (0, .ref (h 0)), (1, .int l1), (3, .int l3)]) hx hb dX9_layFar_108 hl (k := 2) rfl (by rw [ex5]; rfl) (by decide) rfl (fun ls hl => ?_)
        refine lv_goto (tgt := 10) hx hb dX9_layFar_111 (by decide) ?_
        exact hag10 _ _ _ _ _ _ hf (lv_sub hl [1, 2, 0] rfl) hP hD hS
      · have hf := (if_neg c4).symm.trans hf
        refine lv_aload_n hx hb dX9_layFar_24 rfl (lv_at hl 0 rfl) ?_
        refine Mg_6 S hin hK hP f22 dX9_layFar_25 ?_
        refine lv_iconst (v := 5) hx hb dX9_layFar_28 (by decide) ?_
        refine lv_bipush (v := 8) hx hb dX9_layFar_29 (by decide) ?_
        refine lv_iload_n hx hb dX9_layFar_31 rfl (lv_at hl 2 rfl) ?_
        refine lv_imul hx hb dX9_layFar_32 ?_
        refine lv_iadd hx hb dX9_layFar_33 ?_
        refine lv_iload_n hx hb dX9_layFar_34 rfl (lv_at hl 1 rfl) ?_
        refine lv_iadd hx hb dX9_layFar_35 ?_
        obtain ⟨g6, hf⟩ := gd_some hf
        refine Ml_6 S hK hP g6 dX9_layFar_36 ?_
        refine lv_aload_n hx hb dX9_layFar_37 rfl (lv_at hl 0 rfl) ?_
        refine Mg_6 S hin hK hP f22 dX9_layFar_38 ?_
        refine lv_iconst (v := 5) hx hb dX9_layFar_41 (by decide) ?_
        refine lv_bipush (v := 8) hx hb dX9_layFar_42 (by decide) ?_
        refine lv_iload_n hx hb dX9_layFar_44 rfl (lv_at hl 1 rfl) ?_
        refine lv_imul hx hb dX9_layFar_45 ?_
        refine lv_iadd hx hb dX9_layFar_46 ?_
        refine lv_iload_n hx hb dX9_layFar_47 rfl (lv_at hl 3 rfl) ?_
        refine lv_iadd hx hb dX9_layFar_48 ?_
        obtain ⟨g7, hf⟩ := gd_some hf
        refine Ml_6 S hK hP g7 dX9_layFar_49 ?_
        refine lv_iadd hx hb dX9_layFar_50 ?_
        refine lv_topi (fun x8 ex8 => ?_)
        have hf := nm_at ex8 hf
        refine lv_istore (lv' := [(4, .int x8), (0, .ref (h 0)), (1, .int l1), (2, .int l2), (3, .int l3)]) hx hb dX9_layFar_51 hl (by decide) rfl (fun ls hl => ?_)
        refine lv_aload_n hx hb dX9_layFar_53 rfl (lv_at hl 1 rfl) ?_
        refine Mg_6 S hin hK hP f22 dX9_layFar_54 ?_
        refine lv_iconst (v := 5) hx hb dX9_layFar_57 (by decide) ?_
        refine lv_bipush (v := 8) hx hb dX9_layFar_58 (by decide) ?_
        refine lv_iload_n hx hb dX9_layFar_60 rfl (lv_at hl 3 rfl) ?_
        refine lv_imul hx hb dX9_layFar_61 ?_
        refine lv_iadd hx hb dX9_layFar_62 ?_
        refine lv_iload_n hx hb dX9_layFar_63 rfl (lv_at hl 4 rfl) ?_
        refine lv_iadd hx hb dX9_layFar_64 ?_
        refine lv_iload hx hb dX9_layFar_65 (lv_at hl 0 rfl) ?_
        refine lv_aload_n hx hb dX9_layFar_67 rfl (lv_at hl 1 rfl) ?_
        refine Mg_6 S hin hK hP f22 dX9_layFar_68 ?_
        refine lv_iconst (v := 5) hx hb dX9_layFar_71 (by decide) ?_
        refine lv_bipush (v := 8) hx hb dX9_layFar_72 (by decide) ?_
        refine lv_iload_n hx hb dX9_layFar_74 rfl (lv_at hl 3 rfl) ?_
        refine lv_imul hx hb dX9_layFar_75 ?_
        refine lv_iadd hx hb dX9_layFar_76 ?_
        refine lv_iload_n hx hb dX9_layFar_77 rfl (lv_at hl 4 rfl) ?_
        refine lv_iadd hx hb dX9_layFar_78 ?_
        obtain ⟨g9, hf⟩ := gd_some hf
        refine Ml_6 S hK hP g9 dX9_layFar_79 ?_
        refine lv_icmp_ge (tgt := 88) hx hb dX9_layFar_80 (by decide) (fun c10 => ?_) (fun c10 => ?_)
        · have hf := (if_pos c10).symm.trans hf
          refine lv_aload_n hx hb dX9_layFar_88 rfl (lv_at hl 1 rfl) ?_
          refine Mg_6 S hin hK hP f22 dX9_layFar_89 ?_
          refine lv_iconst (v := 5) hx hb dX9_layFar_92 (by decide) ?_
          refine lv_bipush (v := 8) hx hb dX9_layFar_93 (by decide) ?_
          refine lv_iload_n hx hb dX9_layFar_95 rfl (lv_at hl 3 rfl) ?_
          refine lv_imul hx hb dX9_layFar_96 ?_
          refine lv_iadd hx hb dX9_layFar_97 ?_
          refine lv_iload_n hx hb dX9_layFar_98 rfl (lv_at hl 4 rfl) ?_
          refine lv_iadd hx hb dX9_layFar_99 ?_
          obtain ⟨g11, hf⟩ := gd_some hf
          refine Ml_6 S hK hP g11 dX9_layFar_100 ?_
          exact b101 ag2 hag2 ag10 hag10 (FM_layFar_18 ag2 ag10 n) ih _ _ _ _ _ _ _ _ _ hf (lv_sub hl [1, 2, 3, 4] rfl) hP hD hS
        · have hf := (if_neg c10).symm.trans hf
          refine lv_iload hx hb dX9_layFar_83 (lv_at hl 0 rfl) ?_
          refine lv_goto (tgt := 101) hx hb dX9_layFar_85 (by decide) ?_
          exact b101 ag2 hag2 ag10 hag10 (FM_layFar_18 ag2 ag10 n) ih _ _ _ _ _ _ _ _ _ hf (lv_sub hl [1, 2, 3, 4] rfl) hP hD hS
  have b10 : ∀ (ag2 : MS → Int32 → Option MS) (hag2 : ∀ (σ : MS) (l1 : Int32) (ls : Array Slot) (H : Heap) (locs : List Loc), ag2 σ l1 = some σ' → lv_has ls 5 [(0, .ref (h 0)), (1, .int l1)] → va_P D vwCl (mw h cI cZ σ) H → va_D A (mw h cI cZ σ) → va_S A s.heap H locs → W p l e R s m args below meth c H locs 0 0 Q (F0 m 2 ls [])) (n : Nat), ∀ (σ : MS) (l1 : Int32) (l2 : Int32) (ls : Array Slot) (H : Heap) (locs : List Loc), FM_layFar_10 ag2 n σ l1 l2 = some σ' → lv_has ls 5 [(0, .ref (h 0)), (1, .int l1), (2, .int l2)] → va_P D vwCl (mw h cI cZ σ) H → va_D A (mw h cI cZ σ) → va_S A s.heap H locs → W p l e R s m args below meth c H locs 0 0 Q (F0 m 10 ls []) := by
    intro ag2 hag2 n
    induction n with
    | zero => intro σ l1 l2 ls H locs hf; exact absurd hf (by simp [FM_layFar_10])
    | succ n ih =>
      intro σ l1 l2 ls H locs hf hl hP hD hS
      rw [FM_layFar_10] at hf
      refine lv_iload_n hx hb dX9_layFar_10 rfl (lv_at hl 2 rfl) ?_
      refine lv_bipush (v := 8) hx hb dX9_layFar_11 (by decide) ?_
      refine lv_icmp_ge (tgt := 114) hx hb dX9_layFar_13 (by decide) (fun c2 => ?_) (fun c2 => ?_)
      · have hf := (if_pos c2).symm.trans hf
        obtain ⟨x3, ex3, hf⟩ := nm_some hf
        refine lv_iinc (v := x3) (lv' := [(1, .int x3), (0, .ref (h 0)), (2, .int l2)]) hx hb dX9_layFar_114 hl (k := 1) rfl (by rw [ex3]; rfl) (by decide) rfl (fun ls hl => ?_)
        refine lv_goto (tgt := 2) hx hb dX9_layFar_117 (by decide) ?_
        exact hag2 _ _ _ _ _ hf (lv_sub hl [1, 0] rfl) hP hD hS
      · have hf := (if_neg c2).symm.trans hf
        refine lv_iconst (v := 0) hx hb dX9_layFar_16 (by decide) ?_
        refine lv_istore_n (lv' := [(3, .int 0), (0, .ref (h 0)), (1, .int l1), (2, .int l2)]) hx hb dX9_layFar_17 rfl hl (by decide) rfl (fun ls hl => ?_)
        exact b18 ag2 hag2 (FM_layFar_10 ag2 n) ih fuelN _ _ _ _ _ _ _ hf (lv_sub hl [1, 2, 3, 0] rfl) hP hD hS
  have b2 : ∀ (n : Nat), ∀ (σ : MS) (l1 : Int32) (ls : Array Slot) (H : Heap) (locs : List Loc), FM_layFar_2 n σ l1 = some σ' → lv_has ls 5 [(0, .ref (h 0)), (1, .int l1)] → va_P D vwCl (mw h cI cZ σ) H → va_D A (mw h cI cZ σ) → va_S A s.heap H locs → W p l e R s m args below meth c H locs 0 0 Q (F0 m 2 ls []) := by
    intro n
    induction n with
    | zero => intro σ l1 ls H locs hf; exact absurd hf (by simp [FM_layFar_2])
    | succ n ih =>
      intro σ l1 ls H locs hf hl hP hD hS
      rw [FM_layFar_2] at hf
      refine lv_iload_n hx hb dX9_layFar_2 rfl (lv_at hl 1 rfl) ?_
      refine lv_bipush (v := 8) hx hb dX9_layFar_3 (by decide) ?_
      refine lv_icmp_ge (tgt := 120) hx hb dX9_layFar_5 (by decide) (fun c1 => ?_) (fun c1 => ?_)
      · have hf := (if_pos c1).symm.trans hf
        exact hre _ _ _ _ _ hf hP hD hS dX9_layFar_120
      · have hf := (if_neg c1).symm.trans hf
        refine lv_iconst (v := 0) hx hb dX9_layFar_8 (by decide) ?_
        refine lv_istore_n (lv' := [(2, .int 0), (0, .ref (h 0)), (1, .int l1)]) hx hb dX9_layFar_9 rfl hl (by decide) rfl (fun ls hl => ?_)
        exact b10 (FM_layFar_2 n) ih fuelN _ _ _ _ _ _ hf (lv_sub hl [1, 2, 0] rfl) hP hD hS
  unfold FM_layFar at hf
  refine lv_iconst (v := 0) hx hb dX9_layFar_0 (by decide) ?_
  refine lv_istore_n (lv' := [(1, .int 0), (0, .ref (h 0))]) hx hb dX9_layFar_1 rfl hl (by decide) rfl (fun ls hl => ?_)
  exact b2 fuelN _ _ _ _ _ hf (lv_sub hl [1, 0] rfl) hP hD hS
def FM_realm_225  : Nat → MS → Int32 → Option (Int32 × MS)
  | 0, _, _ => none
  | n + 1, σ, l1 => if 147 ≤ l1 then (gd (¬ ((3 : Int32) < 0 ∨ 147 ≤ Int32.toNatClampNeg 3)) (some ((σ.2 5 (Int32.toNatClampNeg 3)), σ))) else (gd (¬ ((l1 : Int32) < 0 ∨ 147 ≤ Int32.toNatClampNeg l1)) (gd (¬ ((l1 : Int32) < 0 ∨ 147 ≤ Int32.toNatClampNeg l1)) (nm (setA σ 5 (Int32.toNatClampNeg l1) (σ.2 6 (Int32.toNatClampNeg l1))) fun (σ50 : MS) => nm (l1 + 1) fun (x51 : Int32) => (FM_realm_225 n) σ50 x51)))
def FM_realm_186 (σ : MS) : Option (Int32 × MS) :=
  if (σ.1 18) ≤ 0 then (nm (setF σ 7 1) fun (σ41 : MS) => nm (setF σ41 9 0) fun (σ42 : MS) => Option.bind (FM_layFar σ42) fun (σ44 : MS) => FM_realm_225 fuelN σ44 0) else (nm (setF σ 12 (σ.1 18)) fun (σ45 : MS) => some (((-1000100) - (σ45.1 19)), σ45))
def FM_realm_148  : Nat → MS → Option (Int32 × MS)
  | 0, _ => none
  | n + 1, σ => Option.bind (FM_name σ) fun (r32 : Int64) => if (lg_cmp r32 1668245870) = 0 then (Option.bind (FM_readCoin σ) fun (σ39 : MS) => (FM_realm_148 n) σ39) else (if (σ.1 18) = 0 then (if (σ.1 15) = 1 then (FM_realm_186 σ) else (Option.bind (FM_bad σ 1) fun (σ37 : MS) => FM_realm_186 σ37)) else (FM_realm_186 σ))
def FM_realm_130  : Nat → MS → Option (Int32 × MS)
  | 0, _ => none
  | n + 1, σ => Option.bind (FM_name σ) fun (r28 : Int64) => if (lg_cmp r28 114827769177458) = 0 then (Option.bind (FM_readHolder σ) fun (σ31 : MS) => (FM_realm_130 n) σ31) else (FM_realm_148 fuelN σ)
def FM_realm_112  : Nat → MS → Option (Int32 × MS)
  | 0, _ => none
  | n + 1, σ => Option.bind (FM_name σ) fun (r24 : Int64) => if (lg_cmp r24 1919902052) = 0 then (Option.bind (FM_readRoad σ) fun (σ27 : MS) => (FM_realm_112 n) σ27) else (FM_realm_130 fuelN σ)
def FM_realm_91 (σ : MS) (s0 : Int32) : Option (Int32 × MS) :=
  Option.bind (FM_must σ s0) fun (σ17 : MS) => bd2 (FM_number σ17 1 400) fun (r18 : Int32) (σ19 : MS) => gd (¬ ((0 : Int32) < 0 ∨ 147 ≤ Int32.toNatClampNeg 0)) (nm (setA σ19 6 (Int32.toNatClampNeg 0) r18) fun (σ21 : MS) => Option.bind (FM_mustEnd σ21) fun (σ23 : MS) => FM_realm_112 fuelN σ23)
def FM_realm_50  : Nat → MS → Int32 → Option (Int32 × MS)
  | 0, _, _ => none
  | n + 1, σ, l1 => if 8 ≤ l1 then (Option.bind (FM_name σ) fun (r11 : Int64) => if (lg_cmp r11 7102839) = 0 then (FM_realm_91 σ 1) else (FM_realm_91 σ 0)) else (gd (¬ (((5 + (9 * l1)) : Int32) < 0 ∨ 147 ≤ Int32.toNatClampNeg (5 + (9 * l1)))) (nm (setA σ 6 (Int32.toNatClampNeg (5 + (9 * l1))) 0) fun (σ14 : MS) => nm (l1 + 1) fun (x15 : Int32) => (FM_realm_50 n) σ14 x15))
def FM_realm_41 (ag11 : MS → Int32 → Option (Int32 × MS)) (σ : MS) (l1 : Int32) (s0 : Int32) (s1 : Int32) : Option (Int32 × MS) :=
  gd (¬ ((s1 : Int32) < 0 ∨ 147 ≤ Int32.toNatClampNeg s1)) (nm (setA σ 6 (Int32.toNatClampNeg s1) s0) fun (σ8 : MS) => nm (l1 + 1) fun (x9 : Int32) => ag11 σ8 x9)
def FM_realm_40 (ag11 : MS → Int32 → Option (Int32 × MS)) (σ : MS) (l1 : Int32) (s0 : Int32) : Option (Int32 × MS) :=
  FM_realm_41 ag11 σ l1 0 s0
def FM_realm_11  : Nat → MS → Int32 → Option (Int32 × MS)
  | 0, _, _ => none
  | n + 1, σ, l1 => if 147 ≤ l1 then (FM_realm_50 fuelN σ 0) else (if l1 < 5 then (FM_realm_40 (FM_realm_11 n) σ l1 l1) else (if 69 ≤ l1 then (FM_realm_40 (FM_realm_11 n) σ l1 l1) else (FM_realm_41 (FM_realm_11 n) σ l1 10000 l1)))
def FM_realm (σ : MS) : Option (Int32 × MS) :=
  nm (setF σ 0 0) fun (σ1 : MS) => Option.bind (FM_begin σ1) fun (σ3 : MS) => FM_realm_11 fuelN σ3 0
set_option maxHeartbeats 4000000 in
set_option maxRecDepth 100000 in
theorem kM_realm (l : Launch) (D : va_G) (h : Nat → Nat) (cI cZ : ClassId) (σ : MS) (r : Int32) (σ' : MS) (hf : FM_realm σ = some (r, σ')) : KK l D [(cI, .int), (cZ, .boolean)] yX9_realm wsX9_realm 5 110 [.ref (h 0)] (mw h cI cZ σ) (some (.int r)) (mw h cI cZ σ') := by
  refine KK.ofI (own := RX9) (cc := cX9_realm) (maxL := 2) (by decide) rfl rfl (Nat.le_of_ble_eq_true rfl) ?_
  intro p e s m args below meth c R Q A ls S hRf hRl hK hA hP hD hS hl hret
  obtain ⟨hx, hb, hml, hown, hts⟩ := id S
  have hin : ∀ w ∈ wsX90, w ∈ wsX9_realm := fun w hw => List.mem_cons_of_mem _ (List.mem_append_right _ hw)
  have f47 := hts (.fieldLink RX9 47 "PenniesAwayModel" "thrown" "I") (by decide +kernel)
  have f22 := hts (.fieldLink RX9 22 "PenniesAwayModel" "fresh" "[I") (by decide +kernel)
  have c158 := hts (.constantLong RX9 158 (7102839)) (by decide +kernel)
  have c160 := hts (.constantLong RX9 160 (1919902052)) (by decide +kernel)
  have c165 := hts (.constantLong RX9 165 (114827769177458)) (by decide +kernel)
  have c170 := hts (.constantLong RX9 170 (1668245870)) (by decide +kernel)
  have f105 := hts (.fieldLink RX9 105 "PenniesAwayModel" "fault" "I") (by decide +kernel)
  have f93 := hts (.fieldLink RX9 93 "PenniesAwayModel" "token" "I") (by decide +kernel)
  have f179 := hts (.fieldLink RX9 179 "PenniesAwayModel" "isThere" "Z") (by decide +kernel)
  have f183 := hts (.fieldLink RX9 183 "PenniesAwayModel" "acts" "I") (by decide +kernel)
  have f175 := hts (.fieldLink RX9 175 "PenniesAwayModel" "latest" "I") (by decide +kernel)
  have c178 := hts (.constant RX9 178 (-1000100)) (by decide +kernel)
  have f111 := hts (.fieldLink RX9 111 "PenniesAwayModel" "faultAt" "I") (by decide +kernel)
  have f19 := hts (.fieldLink RX9 19 "PenniesAwayModel" "realm" "[I") (by decide +kernel)
  have hl : lv_has ls 2 [(0, .ref (h 0))] := hl
  have hre : ∀ (x : Int32) (σx : MS) (pc : Nat) (ls : Array Slot) (H : Heap) (locs : List Loc), (some (x, σx) : Option (Int32 × MS)) = some (r, σ') → va_P D vwCl (mw h cI cZ σx) H → va_D A (mw h cI cZ σx) → va_S A s.heap H locs → decode cX9_realm pc = .ok (.ireturn, 1) → W p l e R s m args below meth c H locs 0 0 Q (F0 m pc ls [.int x]) := by intro x σx pc ls H locs he; cases he; exact hret pc ls H locs
  have b225 : ∀ (n : Nat), ∀ (σ : MS) (l1 : Int32) (ls : Array Slot) (H : Heap) (locs : List Loc), FM_realm_225 n σ l1 = some (r, σ') → lv_has ls 2 [(0, .ref (h 0)), (1, .int l1)] → va_P D vwCl (mw h cI cZ σ) H → va_D A (mw h cI cZ σ) → va_S A s.heap H locs → W p l e R s m args below meth c H locs 0 0 Q (F0 m 225 ls []) := by
    intro n
    induction n with
    | zero => intro σ l1 ls H locs hf; exact absurd hf (by simp [FM_realm_225])
    | succ n ih =>
      intro σ l1 ls H locs hf hl hP hD hS
      rw [FM_realm_225] at hf
      refine lv_iload_n hx hb dX9_realm_225 rfl (lv_at hl 1 rfl) ?_
      refine lv_sipush (v := 147) hx hb dX9_realm_226 (by decide) ?_
      refine lv_icmp_ge (tgt := 250) hx hb dX9_realm_229 (by decide) (fun c46 => ?_) (fun c46 => ?_)
      · have hf := (if_pos c46).symm.trans hf
        refine lv_aload_n hx hb dX9_realm_250 rfl (lv_at hl 0 rfl) ?_
        refine Mg_5 S hin hK hP f19 dX9_realm_251 ?_
        refine lv_iconst (v := 3) hx hb dX9_realm_254 (by decide) ?_
        obtain ⟨g47, hf⟩ := gd_some hf
        refine Ml_5 S hK hP g47 dX9_realm_255 ?_
        exact hre _ _ _ _ _ _ hf hP hD hS dX9_realm_256
      · have hf := (if_neg c46).symm.trans hf
        refine lv_aload_n hx hb dX9_realm_232 rfl (lv_at hl 0 rfl) ?_
        refine Mg_5 S hin hK hP f19 dX9_realm_233 ?_
        refine lv_iload_n hx hb dX9_realm_236 rfl (lv_at hl 1 rfl) ?_
        refine lv_aload_n hx hb dX9_realm_237 rfl (lv_at hl 0 rfl) ?_
        refine Mg_6 S hin hK hP f22 dX9_realm_238 ?_
        refine lv_iload_n hx hb dX9_realm_241 rfl (lv_at hl 1 rfl) ?_
        obtain ⟨g48, hf⟩ := gd_some hf
        refine Ml_6 S hK hP g48 dX9_realm_242 ?_
        obtain ⟨g49, hf⟩ := gd_some hf
        refine Ms_5 S hK hP hD hS g49 dX9_realm_243 (fun H locs hP hD hS => ?_)
        obtain ⟨σ50, eσ50, hf⟩ := nm_some hf
        rw [← eσ50] at hP hD
        obtain ⟨x51, ex51, hf⟩ := nm_some hf
        refine lv_iinc (v := x51) (lv' := [(1, .int x51), (0, .ref (h 0))]) hx hb dX9_realm_244 hl (k := 1) rfl (by rw [ex51]; rfl) (by decide) rfl (fun ls hl => ?_)
        refine lv_goto (tgt := 225) hx hb dX9_realm_247 (by decide) ?_
        exact ih _ _ _ _ _ hf (lv_sub hl [1, 0] rfl) hP hD hS
  have b186 : ∀ (σ : MS) (ls : Array Slot) (H : Heap) (locs : List Loc), FM_realm_186 σ = some (r, σ') → lv_has ls 2 [(0, .ref (h 0))] → va_P D vwCl (mw h cI cZ σ) H → va_D A (mw h cI cZ σ) → va_S A s.heap H locs → W p l e R s m args below meth c H locs 0 0 Q (F0 m 186 ls []) := by
    intro σ ls H locs hf hl hP hD hS
    unfold FM_realm_186 at hf
    refine lv_aload_n hx hb dX9_realm_186 rfl (lv_at hl 0 rfl) ?_
    refine Mg_18 S hin hK hP f105 dX9_realm_187 ?_
    refine lv_if_le (tgt := 209) hx hb dX9_realm_190 (by decide) (fun c40 => ?_) (fun c40 => ?_)
    · have hf := (if_pos c40).symm.trans hf
      refine lv_aload_n hx hb dX9_realm_209 rfl (lv_at hl 0 rfl) ?_
      refine lv_iconst (v := 1) hx hb dX9_realm_210 (by decide) ?_
      refine Mp_7 S hin hK hP hD hS f179 rfl rfl dX9_realm_211 (fun H locs hP hD hS => ?_)
      obtain ⟨σ41, eσ41, hf⟩ := nm_some hf
      rw [← eσ41] at hP hD
      refine lv_aload_n hx hb dX9_realm_214 rfl (lv_at hl 0 rfl) ?_
      refine lv_iconst (v := 0) hx hb dX9_realm_215 (by decide) ?_
      refine Mp_9 S hin hK hP hD hS f183 dX9_realm_216 (fun H locs hP hD hS => ?_)
      obtain ⟨σ42, eσ42, hf⟩ := nm_some hf
      rw [← eσ42] at hP hD
      refine lv_aload_n hx hb dX9_realm_219 rfl (lv_at hl 0 rfl) ?_
      obtain ⟨σ44, hr43, hf⟩ := bi_some hf
      refine kc_v (ci := 8) (q0 := 0) (n := 0) S hRf hRl hK hA hP hD hS hl [] [] (kM_layFar l D h cI cZ σ42  σ44 hr43) gX9_realm_X9_layFar rfl (by decide +kernel) rfl ⟨by decide, by decide⟩ rfl rfl rfl rfl (Nat.le_of_ble_eq_true rfl) dX9_realm_220 (fun H locs hP hD hS => ?_)
      refine W.eq (g2 := F0 m 223 ls []) rfl ?_
      refine lv_iconst (v := 0) hx hb dX9_realm_223 (by decide) ?_
      refine lv_istore_n (lv' := [(1, .int 0), (0, .ref (h 0))]) hx hb dX9_realm_224 rfl hl (by decide) rfl (fun ls hl => ?_)
      exact b225 fuelN _ _ _ _ _ hf (lv_sub hl [1, 0] rfl) hP hD hS
    · have hf := (if_neg c40).symm.trans hf
      refine lv_aload_n hx hb dX9_realm_193 rfl (lv_at hl 0 rfl) ?_
      refine lv_aload_n hx hb dX9_realm_194 rfl (lv_at hl 0 rfl) ?_
      refine Mg_18 S hin hK hP f105 dX9_realm_195 ?_
      refine Mp_12 S hin hK hP hD hS f175 dX9_realm_198 (fun H locs hP hD hS => ?_)
      obtain ⟨σ45, eσ45, hf⟩ := nm_some hf
      rw [← eσ45] at hP hD
      refine lv_ldc (v := (-1000100)) hx hb hown c178 dX9_realm_201 ?_
      refine lv_aload_n hx hb dX9_realm_203 rfl (lv_at hl 0 rfl) ?_
      refine Mg_19 S hin hK hP f111 dX9_realm_204 ?_
      refine lv_isub hx hb dX9_realm_207 ?_
      exact hre _ _ _ _ _ _ hf hP hD hS dX9_realm_208
  have b148 : ∀ (n : Nat), ∀ (σ : MS) (ls : Array Slot) (H : Heap) (locs : List Loc), FM_realm_148 n σ = some (r, σ') → lv_has ls 2 [(0, .ref (h 0))] → va_P D vwCl (mw h cI cZ σ) H → va_D A (mw h cI cZ σ) → va_S A s.heap H locs → W p l e R s m args below meth c H locs 0 0 Q (F0 m 148 ls []) := by
    intro n
    induction n with
    | zero => intro σ ls H locs hf; exact absurd hf (by simp [FM_realm_148])
    | succ n ih =>
      intro σ ls H locs hf hl hP hD hS
      rw [FM_realm_148] at hf
      refine lv_aload_n hx hb dX9_realm_148 rfl (lv_at hl 0 rfl) ?_
      obtain ⟨r32, hr32, hf⟩ := bi_some hf
      refine kc_v (ci := 8) (q0 := 0) (n := 0) S hRf hRl hK hA hP hD hS hl [] [] (kM_name l D h cI cZ σ  r32 hr32) gX9_realm_X9_name rfl (by decide +kernel) rfl ⟨by decide, by decide⟩ rfl rfl rfl rfl (Nat.le_of_ble_eq_true rfl) dX9_realm_149 (fun H locs hP hD hS => ?_)
      refine W.eq (g2 := F0 m 152 ls [.long r32]) rfl ?_
      refine lv_ldc2 (v := 1668245870) hx hb hown c170 dX9_realm_152 ?_
      refine W.lcmp hx hb dX9_realm_155 ?_
      refine lv_if_ne (tgt := 166) hx hb dX9_realm_156 (by decide) (fun c33 => ?_) (fun c33 => ?_)
      · have hf := (if_neg c33).symm.trans hf
        refine lv_aload_n hx hb dX9_realm_166 rfl (lv_at hl 0 rfl) ?_
        refine Mg_18 S hin hK hP f105 dX9_realm_167 ?_
        refine lv_if_ne (tgt := 186) hx hb dX9_realm_170 (by decide) (fun c34 => ?_) (fun c34 => ?_)
        · have hf := (if_neg c34).symm.trans hf
          exact b186 _ _ _ _ hf (lv_sub hl [0] rfl) hP hD hS
        · have hf := (if_pos c34).symm.trans hf
          refine lv_aload_n hx hb dX9_realm_173 rfl (lv_at hl 0 rfl) ?_
          refine Mg_15 S hin hK hP f93 dX9_realm_174 ?_
          refine lv_iconst (v := 1) hx hb dX9_realm_177 (by decide) ?_
          refine lv_icmp_eq (tgt := 186) hx hb dX9_realm_178 (by decide) (fun c35 => ?_) (fun c35 => ?_)
          · have hf := (if_pos c35).symm.trans hf
            exact b186 _ _ _ _ hf (lv_sub hl [0] rfl) hP hD hS
          · have hf := (if_neg c35).symm.trans hf
            refine lv_aload_n hx hb dX9_realm_181 rfl (lv_at hl 0 rfl) ?_
            refine lv_iconst (v := 1) hx hb dX9_realm_182 (by decide) ?_
            obtain ⟨σ37, hr36, hf⟩ := bi_some hf
            refine kc_v (ci := 8) (q0 := 0) (n := 1) S hRf hRl hK hA hP hD hS hl [.int 1] [] (kM_bad l D h cI cZ σ 1 σ37 hr36) gX9_realm_X9_bad rfl (by decide +kernel) rfl ⟨by decide, by decide⟩ rfl rfl rfl rfl (Nat.le_of_ble_eq_true rfl) dX9_realm_183 (fun H locs hP hD hS => ?_)
            refine W.eq (g2 := F0 m 186 ls []) rfl ?_
            exact b186 _ _ _ _ hf (lv_sub hl [0] rfl) hP hD hS
      · have hf := (if_pos c33).symm.trans hf
        refine lv_aload_n hx hb dX9_realm_159 rfl (lv_at hl 0 rfl) ?_
        obtain ⟨σ39, hr38, hf⟩ := bi_some hf
        refine kc_v (ci := 8) (q0 := 0) (n := 0) S hRf hRl hK hA hP hD hS hl [] [] (kM_readCoin l D h cI cZ σ  σ39 hr38) gX9_realm_X9_readCoin rfl (by decide +kernel) rfl ⟨by decide, by decide⟩ rfl rfl rfl rfl (Nat.le_of_ble_eq_true rfl) dX9_realm_160 (fun H locs hP hD hS => ?_)
        refine W.eq (g2 := F0 m 163 ls []) rfl ?_
        refine lv_goto (tgt := 148) hx hb dX9_realm_163 (by decide) ?_
        exact ih _ _ _ _ hf (lv_sub hl [0] rfl) hP hD hS
  have b130 : ∀ (n : Nat), ∀ (σ : MS) (ls : Array Slot) (H : Heap) (locs : List Loc), FM_realm_130 n σ = some (r, σ') → lv_has ls 2 [(0, .ref (h 0))] → va_P D vwCl (mw h cI cZ σ) H → va_D A (mw h cI cZ σ) → va_S A s.heap H locs → W p l e R s m args below meth c H locs 0 0 Q (F0 m 130 ls []) := by
    intro n
    induction n with
    | zero => intro σ ls H locs hf; exact absurd hf (by simp [FM_realm_130])
    | succ n ih =>
      intro σ ls H locs hf hl hP hD hS
      rw [FM_realm_130] at hf
      refine lv_aload_n hx hb dX9_realm_130 rfl (lv_at hl 0 rfl) ?_
      obtain ⟨r28, hr28, hf⟩ := bi_some hf
      refine kc_v (ci := 8) (q0 := 0) (n := 0) S hRf hRl hK hA hP hD hS hl [] [] (kM_name l D h cI cZ σ  r28 hr28) gX9_realm_X9_name rfl (by decide +kernel) rfl ⟨by decide, by decide⟩ rfl rfl rfl rfl (Nat.le_of_ble_eq_true rfl) dX9_realm_131 (fun H locs hP hD hS => ?_)
      refine W.eq (g2 := F0 m 134 ls [.long r28]) rfl ?_
      refine lv_ldc2 (v := 114827769177458) hx hb hown c165 dX9_realm_134 ?_
      refine W.lcmp hx hb dX9_realm_137 ?_
      refine lv_if_ne (tgt := 148) hx hb dX9_realm_138 (by decide) (fun c29 => ?_) (fun c29 => ?_)
      · have hf := (if_neg c29).symm.trans hf
        exact b148 fuelN _ _ _ _ hf (lv_sub hl [0] rfl) hP hD hS
      · have hf := (if_pos c29).symm.trans hf
        refine lv_aload_n hx hb dX9_realm_141 rfl (lv_at hl 0 rfl) ?_
        obtain ⟨σ31, hr30, hf⟩ := bi_some hf
        refine kc_v (ci := 8) (q0 := 0) (n := 0) S hRf hRl hK hA hP hD hS hl [] [] (kM_readHolder l D h cI cZ σ  σ31 hr30) gX9_realm_X9_readHolder rfl (by decide +kernel) rfl ⟨by decide, by decide⟩ rfl rfl rfl rfl (Nat.le_of_ble_eq_true rfl) dX9_realm_142 (fun H locs hP hD hS => ?_)
        refine W.eq (g2 := F0 m 145 ls []) rfl ?_
        refine lv_goto (tgt := 130) hx hb dX9_realm_145 (by decide) ?_
        exact ih _ _ _ _ hf (lv_sub hl [0] rfl) hP hD hS
  have b112 : ∀ (n : Nat), ∀ (σ : MS) (ls : Array Slot) (H : Heap) (locs : List Loc), FM_realm_112 n σ = some (r, σ') → lv_has ls 2 [(0, .ref (h 0))] → va_P D vwCl (mw h cI cZ σ) H → va_D A (mw h cI cZ σ) → va_S A s.heap H locs → W p l e R s m args below meth c H locs 0 0 Q (F0 m 112 ls []) := by
    intro n
    induction n with
    | zero => intro σ ls H locs hf; exact absurd hf (by simp [FM_realm_112])
    | succ n ih =>
      intro σ ls H locs hf hl hP hD hS
      rw [FM_realm_112] at hf
      refine lv_aload_n hx hb dX9_realm_112 rfl (lv_at hl 0 rfl) ?_
      obtain ⟨r24, hr24, hf⟩ := bi_some hf
      refine kc_v (ci := 8) (q0 := 0) (n := 0) S hRf hRl hK hA hP hD hS hl [] [] (kM_name l D h cI cZ σ  r24 hr24) gX9_realm_X9_name rfl (by decide +kernel) rfl ⟨by decide, by decide⟩ rfl rfl rfl rfl (Nat.le_of_ble_eq_true rfl) dX9_realm_113 (fun H locs hP hD hS => ?_)
      refine W.eq (g2 := F0 m 116 ls [.long r24]) rfl ?_
      refine lv_ldc2 (v := 1919902052) hx hb hown c160 dX9_realm_116 ?_
      refine W.lcmp hx hb dX9_realm_119 ?_
      refine lv_if_ne (tgt := 130) hx hb dX9_realm_120 (by decide) (fun c25 => ?_) (fun c25 => ?_)
      · have hf := (if_neg c25).symm.trans hf
        exact b130 fuelN _ _ _ _ hf (lv_sub hl [0] rfl) hP hD hS
      · have hf := (if_pos c25).symm.trans hf
        refine lv_aload_n hx hb dX9_realm_123 rfl (lv_at hl 0 rfl) ?_
        obtain ⟨σ27, hr26, hf⟩ := bi_some hf
        refine kc_v (ci := 8) (q0 := 0) (n := 0) S hRf hRl hK hA hP hD hS hl [] [] (kM_readRoad l D h cI cZ σ  σ27 hr26) gX9_realm_X9_readRoad rfl (by decide +kernel) rfl ⟨by decide, by decide⟩ rfl rfl rfl rfl (Nat.le_of_ble_eq_true rfl) dX9_realm_124 (fun H locs hP hD hS => ?_)
        refine W.eq (g2 := F0 m 127 ls []) rfl ?_
        refine lv_goto (tgt := 112) hx hb dX9_realm_127 (by decide) ?_
        exact ih _ _ _ _ hf (lv_sub hl [0] rfl) hP hD hS
  have b91 : ∀ (σ : MS) (s0 : Int32) (ls : Array Slot) (H : Heap) (locs : List Loc), FM_realm_91 σ s0 = some (r, σ') → lv_has ls 2 [(0, .ref (h 0))] → va_P D vwCl (mw h cI cZ σ) H → va_D A (mw h cI cZ σ) → va_S A s.heap H locs → W p l e R s m args below meth c H locs 0 0 Q (F0 m 91 ls [.int s0, .ref (h 0)]) := by
    intro σ s0 ls H locs hf hl hP hD hS
    unfold FM_realm_91 at hf
    obtain ⟨σ17, hr16, hf⟩ := bi_some hf
    refine kc_v (ci := 8) (q0 := 0) (n := 1) S hRf hRl hK hA hP hD hS hl [.int s0] [] (kM_must l D h cI cZ σ s0 σ17 hr16) gX9_realm_X9_must rfl (by decide +kernel) rfl ⟨by decide, by decide⟩ rfl rfl rfl rfl (Nat.le_of_ble_eq_true rfl) dX9_realm_91 (fun H locs hP hD hS => ?_)
    refine W.eq (g2 := F0 m 94 ls []) rfl ?_
    refine lv_aload_n hx hb dX9_realm_94 rfl (lv_at hl 0 rfl) ?_
    refine Mg_6 S hin hK hP f22 dX9_realm_95 ?_
    refine lv_iconst (v := 0) hx hb dX9_realm_98 (by decide) ?_
    refine lv_aload_n hx hb dX9_realm_99 rfl (lv_at hl 0 rfl) ?_
    refine lv_iconst (v := 1) hx hb dX9_realm_100 (by decide) ?_
    refine lv_sipush (v := 400) hx hb dX9_realm_101 (by decide) ?_
    obtain ⟨r18, σ19, hr18, hf⟩ := bd2_some hf
    refine kc_v (ci := 8) (q0 := 0) (n := 2) S hRf hRl hK hA hP hD hS hl [.int 1, .int 400] [.int 0, .ref (h 6)] (kM_number l D h cI cZ σ17 1 400 r18 σ19 hr18) gX9_realm_X9_number rfl (by decide +kernel) rfl ⟨by decide, by decide⟩ rfl rfl rfl rfl (Nat.le_of_ble_eq_true rfl) dX9_realm_104 (fun H locs hP hD hS => ?_)
    refine W.eq (g2 := F0 m 107 ls [.int r18, .int 0, .ref (h 6)]) rfl ?_
    obtain ⟨g20, hf⟩ := gd_some hf
    refine Ms_6 S hK hP hD hS g20 dX9_realm_107 (fun H locs hP hD hS => ?_)
    obtain ⟨σ21, eσ21, hf⟩ := nm_some hf
    rw [← eσ21] at hP hD
    refine lv_aload_n hx hb dX9_realm_108 rfl (lv_at hl 0 rfl) ?_
    obtain ⟨σ23, hr22, hf⟩ := bi_some hf
    refine kc_v (ci := 8) (q0 := 0) (n := 0) S hRf hRl hK hA hP hD hS hl [] [] (kM_mustEnd l D h cI cZ σ21  σ23 hr22) gX9_realm_X9_mustEnd rfl (by decide +kernel) rfl ⟨by decide, by decide⟩ rfl rfl rfl rfl (Nat.le_of_ble_eq_true rfl) dX9_realm_109 (fun H locs hP hD hS => ?_)
    refine W.eq (g2 := F0 m 112 ls []) rfl ?_
    exact b112 fuelN _ _ _ _ hf (lv_sub hl [0] rfl) hP hD hS
  have b50 : ∀ (n : Nat), ∀ (σ : MS) (l1 : Int32) (ls : Array Slot) (H : Heap) (locs : List Loc), FM_realm_50 n σ l1 = some (r, σ') → lv_has ls 2 [(0, .ref (h 0)), (1, .int l1)] → va_P D vwCl (mw h cI cZ σ) H → va_D A (mw h cI cZ σ) → va_S A s.heap H locs → W p l e R s m args below meth c H locs 0 0 Q (F0 m 50 ls []) := by
    intro n
    induction n with
    | zero => intro σ l1 ls H locs hf; exact absurd hf (by simp [FM_realm_50])
    | succ n ih =>
      intro σ l1 ls H locs hf hl hP hD hS
      rw [FM_realm_50] at hf
      refine lv_iload_n hx hb dX9_realm_50 rfl (lv_at hl 1 rfl) ?_
      refine lv_bipush (v := 8) hx hb dX9_realm_51 (by decide) ?_
      refine lv_icmp_ge (tgt := 74) hx hb dX9_realm_53 (by decide) (fun c10 => ?_) (fun c10 => ?_)
      · have hf := (if_pos c10).symm.trans hf
        refine lv_aload_n hx hb dX9_realm_74 rfl (lv_at hl 0 rfl) ?_
        refine lv_aload_n hx hb dX9_realm_75 rfl (lv_at hl 0 rfl) ?_
        obtain ⟨r11, hr11, hf⟩ := bi_some hf
        refine kc_v (ci := 8) (q0 := 0) (n := 0) S hRf hRl hK hA hP hD hS hl [] [.ref (h 0)] (kM_name l D h cI cZ σ  r11 hr11) gX9_realm_X9_name rfl (by decide +kernel) rfl ⟨by decide, by decide⟩ rfl rfl rfl rfl (Nat.le_of_ble_eq_true rfl) dX9_realm_76 (fun H locs hP hD hS => ?_)
        refine W.eq (g2 := F0 m 79 ls [.long r11, .ref (h 0)]) rfl ?_
        refine lv_ldc2 (v := 7102839) hx hb hown c158 dX9_realm_79 ?_
        refine W.lcmp hx hb dX9_realm_82 ?_
        refine lv_if_ne (tgt := 90) hx hb dX9_realm_83 (by decide) (fun c12 => ?_) (fun c12 => ?_)
        · have hf := (if_neg c12).symm.trans hf
          refine lv_iconst (v := 0) hx hb dX9_realm_90 (by decide) ?_
          exact b91 _ _ _ _ _ hf (lv_sub hl [0] rfl) hP hD hS
        · have hf := (if_pos c12).symm.trans hf
          refine lv_iconst (v := 1) hx hb dX9_realm_86 (by decide) ?_
          refine lv_goto (tgt := 91) hx hb dX9_realm_87 (by decide) ?_
          exact b91 _ _ _ _ _ hf (lv_sub hl [0] rfl) hP hD hS
      · have hf := (if_neg c10).symm.trans hf
        refine lv_aload_n hx hb dX9_realm_56 rfl (lv_at hl 0 rfl) ?_
        refine Mg_6 S hin hK hP f22 dX9_realm_57 ?_
        refine lv_iconst (v := 5) hx hb dX9_realm_60 (by decide) ?_
        refine lv_bipush (v := 9) hx hb dX9_realm_61 (by decide) ?_
        refine lv_iload_n hx hb dX9_realm_63 rfl (lv_at hl 1 rfl) ?_
        refine lv_imul hx hb dX9_realm_64 ?_
        refine lv_iadd hx hb dX9_realm_65 ?_
        refine lv_iconst (v := 0) hx hb dX9_realm_66 (by decide) ?_
        obtain ⟨g13, hf⟩ := gd_some hf
        refine Ms_6 S hK hP hD hS g13 dX9_realm_67 (fun H locs hP hD hS => ?_)
        obtain ⟨σ14, eσ14, hf⟩ := nm_some hf
        rw [← eσ14] at hP hD
        obtain ⟨x15, ex15, hf⟩ := nm_some hf
        refine lv_iinc (v := x15) (lv' := [(1, .int x15), (0, .ref (h 0))]) hx hb dX9_realm_68 hl (k := 1) rfl (by rw [ex15]; rfl) (by decide) rfl (fun ls hl => ?_)
        refine lv_goto (tgt := 50) hx hb dX9_realm_71 (by decide) ?_
        exact ih _ _ _ _ _ hf (lv_sub hl [1, 0] rfl) hP hD hS
  have b41 : ∀ (ag11 : MS → Int32 → Option (Int32 × MS)) (hag11 : ∀ (σ : MS) (l1 : Int32) (ls : Array Slot) (H : Heap) (locs : List Loc), ag11 σ l1 = some (r, σ') → lv_has ls 2 [(0, .ref (h 0)), (1, .int l1)] → va_P D vwCl (mw h cI cZ σ) H → va_D A (mw h cI cZ σ) → va_S A s.heap H locs → W p l e R s m args below meth c H locs 0 0 Q (F0 m 11 ls [])), ∀ (σ : MS) (l1 : Int32) (s0 : Int32) (s1 : Int32) (ls : Array Slot) (H : Heap) (locs : List Loc), FM_realm_41 ag11 σ l1 s0 s1 = some (r, σ') → lv_has ls 2 [(0, .ref (h 0)), (1, .int l1)] → va_P D vwCl (mw h cI cZ σ) H → va_D A (mw h cI cZ σ) → va_S A s.heap H locs → W p l e R s m args below meth c H locs 0 0 Q (F0 m 41 ls [.int s0, .int s1, .ref (h 6)]) := by
    intro ag11 hag11 σ l1 s0 s1 ls H locs hf hl hP hD hS
    unfold FM_realm_41 at hf
    obtain ⟨g7, hf⟩ := gd_some hf
    refine Ms_6 S hK hP hD hS g7 dX9_realm_41 (fun H locs hP hD hS => ?_)
    obtain ⟨σ8, eσ8, hf⟩ := nm_some hf
    rw [← eσ8] at hP hD
    obtain ⟨x9, ex9, hf⟩ := nm_some hf
    refine lv_iinc (v := x9) (lv' := [(1, .int x9), (0, .ref (h 0))]) hx hb dX9_realm_42 hl (k := 1) rfl (by rw [ex9]; rfl) (by decide) rfl (fun ls hl => ?_)
    refine lv_goto (tgt := 11) hx hb dX9_realm_45 (by decide) ?_
    exact hag11 _ _ _ _ _ hf (lv_sub hl [1, 0] rfl) hP hD hS
  have b40 : ∀ (ag11 : MS → Int32 → Option (Int32 × MS)) (hag11 : ∀ (σ : MS) (l1 : Int32) (ls : Array Slot) (H : Heap) (locs : List Loc), ag11 σ l1 = some (r, σ') → lv_has ls 2 [(0, .ref (h 0)), (1, .int l1)] → va_P D vwCl (mw h cI cZ σ) H → va_D A (mw h cI cZ σ) → va_S A s.heap H locs → W p l e R s m args below meth c H locs 0 0 Q (F0 m 11 ls [])), ∀ (σ : MS) (l1 : Int32) (s0 : Int32) (ls : Array Slot) (H : Heap) (locs : List Loc), FM_realm_40 ag11 σ l1 s0 = some (r, σ') → lv_has ls 2 [(0, .ref (h 0)), (1, .int l1)] → va_P D vwCl (mw h cI cZ σ) H → va_D A (mw h cI cZ σ) → va_S A s.heap H locs → W p l e R s m args below meth c H locs 0 0 Q (F0 m 40 ls [.int s0, .ref (h 6)]) := by
    intro ag11 hag11 σ l1 s0 ls H locs hf hl hP hD hS
    unfold FM_realm_40 at hf
    refine lv_iconst (v := 0) hx hb dX9_realm_40 (by decide) ?_
    exact b41 ag11 hag11 _ _ _ _ _ _ _ hf (lv_sub hl [0, 1] rfl) hP hD hS
  have b11 : ∀ (n : Nat), ∀ (σ : MS) (l1 : Int32) (ls : Array Slot) (H : Heap) (locs : List Loc), FM_realm_11 n σ l1 = some (r, σ') → lv_has ls 2 [(0, .ref (h 0)), (1, .int l1)] → va_P D vwCl (mw h cI cZ σ) H → va_D A (mw h cI cZ σ) → va_S A s.heap H locs → W p l e R s m args below meth c H locs 0 0 Q (F0 m 11 ls []) := by
    intro n
    induction n with
    | zero => intro σ l1 ls H locs hf; exact absurd hf (by simp [FM_realm_11])
    | succ n ih =>
      intro σ l1 ls H locs hf hl hP hD hS
      rw [FM_realm_11] at hf
      refine lv_iload_n hx hb dX9_realm_11 rfl (lv_at hl 1 rfl) ?_
      refine lv_sipush (v := 147) hx hb dX9_realm_12 (by decide) ?_
      refine lv_icmp_ge (tgt := 48) hx hb dX9_realm_15 (by decide) (fun c4 => ?_) (fun c4 => ?_)
      · have hf := (if_pos c4).symm.trans hf
        refine lv_iconst (v := 0) hx hb dX9_realm_48 (by decide) ?_
        refine lv_istore_n (lv' := [(1, .int 0), (0, .ref (h 0))]) hx hb dX9_realm_49 rfl hl (by decide) rfl (fun ls hl => ?_)
        exact b50 fuelN _ _ _ _ _ hf (lv_sub hl [1, 0] rfl) hP hD hS
      · have hf := (if_neg c4).symm.trans hf
        refine lv_aload_n hx hb dX9_realm_18 rfl (lv_at hl 0 rfl) ?_
        refine Mg_6 S hin hK hP f22 dX9_realm_19 ?_
        refine lv_iload_n hx hb dX9_realm_22 rfl (lv_at hl 1 rfl) ?_
        refine lv_iload_n hx hb dX9_realm_23 rfl (lv_at hl 1 rfl) ?_
        refine lv_iconst (v := 5) hx hb dX9_realm_24 (by decide) ?_
        refine lv_icmp_lt (tgt := 40) hx hb dX9_realm_25 (by decide) (fun c5 => ?_) (fun c5 => ?_)
        · have hf := (if_pos c5).symm.trans hf
          exact b40 (FM_realm_11 n) ih _ _ _ _ _ _ hf (lv_sub hl [0, 1] rfl) hP hD hS
        · have hf := (if_neg c5).symm.trans hf
          refine lv_iload_n hx hb dX9_realm_28 rfl (lv_at hl 1 rfl) ?_
          refine lv_bipush (v := 69) hx hb dX9_realm_29 (by decide) ?_
          refine lv_icmp_ge (tgt := 40) hx hb dX9_realm_31 (by decide) (fun c6 => ?_) (fun c6 => ?_)
          · have hf := (if_pos c6).symm.trans hf
            exact b40 (FM_realm_11 n) ih _ _ _ _ _ _ hf (lv_sub hl [0, 1] rfl) hP hD hS
          · have hf := (if_neg c6).symm.trans hf
            refine lv_sipush (v := 10000) hx hb dX9_realm_34 (by decide) ?_
            refine lv_goto (tgt := 41) hx hb dX9_realm_37 (by decide) ?_
            exact b41 (FM_realm_11 n) ih _ _ _ _ _ _ _ hf (lv_sub hl [0, 1] rfl) hP hD hS
  unfold FM_realm at hf
  refine lv_aload_n hx hb dX9_realm_0 rfl (lv_at hl 0 rfl) ?_
  refine lv_iconst (v := 0) hx hb dX9_realm_1 (by decide) ?_
  refine Mp_0 S hin hK hP hD hS f47 dX9_realm_2 (fun H locs hP hD hS => ?_)
  obtain ⟨σ1, eσ1, hf⟩ := nm_some hf
  rw [← eσ1] at hP hD
  refine lv_aload_n hx hb dX9_realm_5 rfl (lv_at hl 0 rfl) ?_
  obtain ⟨σ3, hr2, hf⟩ := bi_some hf
  refine kc_v (ci := 8) (q0 := 0) (n := 0) S hRf hRl hK hA hP hD hS hl [] [] (kM_begin l D h cI cZ σ1  σ3 hr2) gX9_realm_X9_begin rfl (by decide +kernel) rfl ⟨by decide, by decide⟩ rfl rfl rfl rfl (Nat.le_of_ble_eq_true rfl) dX9_realm_6 (fun H locs hP hD hS => ?_)
  refine W.eq (g2 := F0 m 9 ls []) rfl ?_
  refine lv_iconst (v := 0) hx hb dX9_realm_9 (by decide) ?_
  refine lv_istore_n (lv' := [(1, .int 0), (0, .ref (h 0))]) hx hb dX9_realm_10 rfl hl (by decide) rfl (fun ls hl => ?_)
  exact b11 fuelN _ _ _ _ _ hf (lv_sub hl [1, 0] rfl) hP hD hS
def FM_fault (σ : MS) : Option (Int32 × MS) :=
  nm (setF σ 0 0) fun (σ1 : MS) => some ((σ1.1 12), σ1)
set_option maxHeartbeats 4000000 in
set_option maxRecDepth 100000 in
theorem kM_fault (l : Launch) (D : va_G) (h : Nat → Nat) (cI cZ : ClassId) (σ : MS) (r : Int32) (σ' : MS) (hf : FM_fault σ = some (r, σ')) : KK l D [(cI, .int), (cZ, .boolean)] yX9_fault wsX9_fault 0 0 [.ref (h 0)] (mw h cI cZ σ) (some (.int r)) (mw h cI cZ σ') := by
  refine KK.ofI (own := RX9) (cc := cX9_fault) (maxL := 1) (by decide) rfl rfl (Nat.le_of_ble_eq_true rfl) ?_
  intro p e s m args below meth c R Q A ls S hRf hRl hK hA hP hD hS hl hret
  obtain ⟨hx, hb, hml, hown, hts⟩ := id S
  have hin : ∀ w ∈ wsX90, w ∈ wsX9_fault := fun w hw => List.mem_cons_of_mem _ (List.mem_append_right _ hw)
  have f47 := hts (.fieldLink RX9 47 "PenniesAwayModel" "thrown" "I") (by decide +kernel)
  have f175 := hts (.fieldLink RX9 175 "PenniesAwayModel" "latest" "I") (by decide +kernel)
  have hl : lv_has ls 1 [(0, .ref (h 0))] := hl
  have hre : ∀ (x : Int32) (σx : MS) (pc : Nat) (ls : Array Slot) (H : Heap) (locs : List Loc), (some (x, σx) : Option (Int32 × MS)) = some (r, σ') → va_P D vwCl (mw h cI cZ σx) H → va_D A (mw h cI cZ σx) → va_S A s.heap H locs → decode cX9_fault pc = .ok (.ireturn, 1) → W p l e R s m args below meth c H locs 0 0 Q (F0 m pc ls [.int x]) := by intro x σx pc ls H locs he; cases he; exact hret pc ls H locs
  unfold FM_fault at hf
  refine lv_aload_n hx hb dX9_fault_0 rfl (lv_at hl 0 rfl) ?_
  refine lv_iconst (v := 0) hx hb dX9_fault_1 (by decide) ?_
  refine Mp_0 S hin hK hP hD hS f47 dX9_fault_2 (fun H locs hP hD hS => ?_)
  obtain ⟨σ1, eσ1, hf⟩ := nm_some hf
  rw [← eσ1] at hP hD
  refine lv_aload_n hx hb dX9_fault_5 rfl (lv_at hl 0 rfl) ?_
  refine Mg_12 S hin hK hP f175 dX9_fault_6 ?_
  exact hre _ _ _ _ _ _ hf hP hD hS dX9_fault_9
def FM_isHolder (σ : MS) (a1 : Int32) : Option Int32 :=
  gd (¬ ((2 : Int32) < 0 ∨ 147 ≤ Int32.toNatClampNeg 2)) (Option.bind (FM_in (Int32.toInt64 a1) 0 (Int32.toInt64 ((σ.2 5 (Int32.toNatClampNeg 2)) - 1))) fun (r2 : Int32) => gd (r2 = 0 ∨ r2 = 1) (some r2))
set_option maxHeartbeats 4000000 in
set_option maxRecDepth 100000 in
theorem kM_isHolder (l : Launch) (D : va_G) (h : Nat → Nat) (cI cZ : ClassId) (σ : MS) (a1 : Int32) (r : Int32) (hf : FM_isHolder σ a1 = some r) : KK l D [(cI, .int), (cZ, .boolean)] yX9_isHolder wsX9_isHolder 1 25 [.ref (h 0), .int a1] (mw h cI cZ σ) (some (.int r)) (mw h cI cZ σ) := by
  refine KK.ofZ (own := RX9) (cc := cX9_isHolder) (maxL := 2) (by decide) rfl rfl (Nat.le_of_ble_eq_true rfl) ?_
  intro p e s m args below meth c R Q A ls S hRf hRl hK hA hP hD hS hl hret
  obtain ⟨hx, hb, hml, hown, hts⟩ := id S
  have hin : ∀ w ∈ wsX90, w ∈ wsX9_isHolder := fun w hw => List.mem_cons_of_mem _ (List.mem_append_right _ hw)
  have f19 := hts (.fieldLink RX9 19 "PenniesAwayModel" "realm" "[I") (by decide +kernel)
  have hl : lv_has ls 2 [(0, .ref (h 0)), (1, .int a1)] := hl
  have hre : ∀ (x : Int32) (pc : Nat) (ls : Array Slot) (H : Heap) (locs : List Loc), (some x : Option Int32) = some r → va_P D vwCl (mw h cI cZ σ) H → va_D A (mw h cI cZ σ) → va_S A s.heap H locs → decode cX9_isHolder pc = .ok (.ireturn, 1) → narrow .boolean (.int x) = .int x → W p l e R s m args below meth c H locs 0 0 Q (F0 m pc ls [.int x]) := by intro x pc ls H locs he; cases he; exact hret pc ls H locs
  unfold FM_isHolder at hf
  refine lv_iload_n hx hb dX9_isHolder_0 rfl (lv_at hl 1 rfl) ?_
  refine lv_i2l hx hb dX9_isHolder_1 rfl ?_
  refine lv_lconst (v := 0) hx hb dX9_isHolder_2 (by decide) ?_
  refine lv_aload_n hx hb dX9_isHolder_3 rfl (lv_at hl 0 rfl) ?_
  refine Mg_5 S hin hK hP f19 dX9_isHolder_4 ?_
  refine lv_iconst (v := 2) hx hb dX9_isHolder_7 (by decide) ?_
  obtain ⟨g1, hf⟩ := gd_some hf
  refine Ml_5 S hK hP g1 dX9_isHolder_8 ?_
  refine lv_iconst (v := 1) hx hb dX9_isHolder_9 (by decide) ?_
  refine lv_isub hx hb dX9_isHolder_10 ?_
  refine lv_i2l hx hb dX9_isHolder_11 rfl ?_
  obtain ⟨r2, hr2, hf⟩ := bi_some hf
  refine kc_s (n := 3) S hRf hRl hK hA hP hD hS hl [.long (Int32.toInt64 a1), .long 0, .long (Int32.toInt64 ((σ.2 5 (Int32.toNatClampNeg 2)) - 1))] [] (kM_in l D _ _ (Int32.toInt64 a1) 0 (Int32.toInt64 ((σ.2 5 (Int32.toNatClampNeg 2)) - 1)) r2 hr2) gX9_isHolder_X9_in rfl (by decide +kernel) rfl ⟨by decide, by decide⟩ rfl (Nat.le_of_ble_eq_true rfl) dX9_isHolder_12 (fun H locs hP hD hS => ?_)
  refine W.eq (g2 := F0 m 15 ls [.int r2]) rfl ?_
  obtain ⟨g3, hf⟩ := gd_some hf
  exact hre _ _ _ _ _ hf hP hD hS dX9_isHolder_15 (by rcases g3 with g3 | g3 <;> (rw [g3]; rfl))
