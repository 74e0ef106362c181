def FM_flood_126 (ag43 : MS → Int64 → Int32 → Int32 → Option (Int32 × MS)) (σ : MS) (l2 : Int64) (l4 : Int32) (l5 : Int32) : Option (Int32 × MS) :=
  nm (l5 + 1) fun (x23 : Int32) => ag43 σ l2 l4 x23
def FM_flood_123 (ag43 : MS → Int64 → Int32 → Int32 → Option (Int32 × MS)) (σ : MS) (l2 : Int64) (l5 : Int32) (s0 : Int32) (s1 : Int32) : Option (Int32 × MS) :=
  nm (s1 + s0) fun (x22 : Int32) => FM_flood_126 ag43 σ l2 x22 l5
def FM_flood_76 (ag43 : MS → Int64 → Int32 → Int32 → Option (Int32 × MS)) (σ : MS) (l2 : Int64) (l4 : Int32) (l5 : Int32) : Option (Int32 × MS) :=
  gd (¬ (2147483647 : Int64) = 0) (nm ((l2 * 16807) - (l2 * 16807) / 2147483647 * 2147483647) fun (x15 : Int64) => gd (¬ (10 : Int64) = 0) (nm (Int64.toInt32 (x15 - x15 / 10 * 10)) fun (x17 : Int32) => Option.bind (FM_of σ l5 4) fun (r18 : Int32) => Option.bind (FM_becomes σ l5 4 (r18 + x17)) fun (σ20 : MS) => if x17 ≤ 0 then (FM_flood_123 ag43 σ20 x15 l5 0 l4) else (FM_flood_123 ag43 σ20 x15 l5 1 l4)))
def FM_flood_43  : Nat → MS → Int64 → Int32 → Int32 → Option (Int32 × MS)
  | 0, _, _, _, _ => none
  | n + 1, σ, l2, l4, l5 => gd (¬ ((3 : Int32) < 0 ∨ 147 ≤ Int32.toNatClampNeg 3)) (if (σ.2 5 (Int32.toNatClampNeg 3)) ≤ l5 then (some (l4, σ)) else (Option.bind (FM_of σ l5 3) fun (r10 : Int32) => if r10 = 1 then (FM_flood_76 (FM_flood_43 n) σ l2 l4 l5) else (Option.bind (FM_of σ l5 3) fun (r12 : Int32) => if r12 = 2 then (FM_flood_76 (FM_flood_43 n) σ l2 l4 l5) else (FM_flood_126 (FM_flood_43 n) σ l2 l4 l5))))
def FM_flood (σ : MS) (a1 : Int32) : Option (Int32 × MS) :=
  nm (setF σ 0 0) fun (σ1 : MS) => if (σ1.1 7) = 0 then (some ((-1000002), σ1)) else (Option.bind (FM_in (Int32.toInt64 a1) 1 999999) fun (r3 : Int32) => if r3 = 0 then (some ((-1000001), σ1)) else (Option.bind (FM_keep σ1) fun (σ6 : MS) => nm (Int32.toInt64 a1) fun (x7 : Int64) => FM_flood_43 fuelN σ6 x7 0 0))
set_option maxHeartbeats 4000000 in
set_option maxRecDepth 100000 in
theorem kM_flood (l : Launch) (D : va_G) (h : Nat → Nat) (cI cZ : ClassId) (σ : MS) (a1 : Int32) (r : Int32) (σ' : MS) (hf : FM_flood σ a1 = some (r, σ')) : KK l D [(cI, .int), (cZ, .boolean)] yX9_flood wsX9_flood 1 25 [.ref (h 0), .int a1] (mw h cI cZ σ) (some (.int r)) (mw h cI cZ σ') := by
  refine KK.ofI (own := RX9) (cc := cX9_flood) (maxL := 7) (by decide) rfl rfl (Nat.le_of_ble_eq_true rfl) ?_
  intro p e s m args below meth c R Q A ls S hRf hRl hK hA hP hD hS hl hret
  obtain ⟨hx, hb, hml, hown, hts⟩ := id S
  have hin : ∀ w ∈ wsX90, w ∈ wsX9_flood := fun w hw => List.mem_cons_of_mem _ (List.mem_append_right _ hw)
  have f47 := hts (.fieldLink RX9 47 "PenniesAwayModel" "thrown" "I") (by decide +kernel)
  have f179 := hts (.fieldLink RX9 179 "PenniesAwayModel" "isThere" "Z") (by decide +kernel)
  have c234 := hts (.constantLong RX9 234 (999999)) (by decide +kernel)
  have c67 := hts (.constant RX9 67 (-1000001)) (by decide +kernel)
  have c210 := hts (.constant RX9 210 (-1000002)) (by decide +kernel)
  have f19 := hts (.fieldLink RX9 19 "PenniesAwayModel" "realm" "[I") (by decide +kernel)
  have c236 := hts (.constantLong RX9 236 (16807)) (by decide +kernel)
  have c238 := hts (.constantLong RX9 238 (2147483647)) (by decide +kernel)
  have c240 := hts (.constantLong RX9 240 (10)) (by decide +kernel)
  have hl : lv_has ls 7 [(0, .ref (h 0)), (1, .int a1)] := hl
  have hre : ∀ (x : Int32) (σx : MS) (pc : Nat) (ls : Array Slot) (H : Heap) (locs : List Loc), (some (x, σx) : Option (Int32 × MS)) = some (r, σ') → va_P D vwCl (mw h cI cZ σx) H → va_D A (mw h cI cZ σx) → va_S A s.heap H locs → decode cX9_flood pc = .ok (.ireturn, 1) → W p l e R s m args below meth c H locs 0 0 Q (F0 m pc ls [.int x]) := by intro x σx pc ls H locs he; cases he; exact hret pc ls H locs
  have b126 : ∀ (ag43 : MS → Int64 → Int32 → Int32 → Option (Int32 × MS)) (hag43 : ∀ (σ : MS) (l2 : Int64) (l4 : Int32) (l5 : Int32) (ls : Array Slot) (H : Heap) (locs : List Loc), ag43 σ l2 l4 l5 = some (r, σ') → lv_has ls 7 [(0, .ref (h 0)), (2, .long l2), (4, .int l4), (5, .int l5)] → va_P D vwCl (mw h cI cZ σ) H → va_D A (mw h cI cZ σ) → va_S A s.heap H locs → W p l e R s m args below meth c H locs 0 0 Q (F0 m 43 ls [])), ∀ (σ : MS) (l2 : Int64) (l4 : Int32) (l5 : Int32) (ls : Array Slot) (H : Heap) (locs : List Loc), FM_flood_126 ag43 σ l2 l4 l5 = some (r, σ') → lv_has ls 7 [(0, .ref (h 0)), (2, .long l2), (4, .int l4), (5, .int l5)] → va_P D vwCl (mw h cI cZ σ) H → va_D A (mw h cI cZ σ) → va_S A s.heap H locs → W p l e R s m args below meth c H locs 0 0 Q (F0 m 126 ls []) := by
    intro ag43 hag43 σ l2 l4 l5 ls H locs hf hl hP hD hS
    unfold FM_flood_126 at hf
    obtain ⟨x23, ex23, hf⟩ := nm_some hf
    refine lv_iinc (v := x23) (lv' := [(5, .int x23), (0, .ref (h 0)), (2, .long l2), (4, .int l4)]) hx hb dX9_flood_126 hl (k := 3) rfl (by rw [ex23]; rfl) (by decide) rfl (fun ls hl => ?_)
    refine lv_goto (tgt := 43) hx hb dX9_flood_129 (by decide) ?_
    exact hag43 _ _ _ _ _ _ _ hf (lv_sub hl [1, 2, 3, 0] rfl) hP hD hS
  have b123 : ∀ (ag43 : MS → Int64 → Int32 → Int32 → Option (Int32 × MS)) (hag43 : ∀ (σ : MS) (l2 : Int64) (l4 : Int32) (l5 : Int32) (ls : Array Slot) (H : Heap) (locs : List Loc), ag43 σ l2 l4 l5 = some (r, σ') → lv_has ls 7 [(0, .ref (h 0)), (2, .long l2), (4, .int l4), (5, .int l5)] → va_P D vwCl (mw h cI cZ σ) H → va_D A (mw h cI cZ σ) → va_S A s.heap H locs → W p l e R s m args below meth c H locs 0 0 Q (F0 m 43 ls [])), ∀ (σ : MS) (l2 : Int64) (l5 : Int32) (s0 : Int32) (s1 : Int32) (ls : Array Slot) (H : Heap) (locs : List Loc), FM_flood_123 ag43 σ l2 l5 s0 s1 = some (r, σ') → lv_has ls 7 [(0, .ref (h 0)), (2, .long l2), (5, .int l5)] → va_P D vwCl (mw h cI cZ σ) H → va_D A (mw h cI cZ σ) → va_S A s.heap H locs → W p l e R s m args below meth c H locs 0 0 Q (F0 m 123 ls [.int s0, .int s1]) := by
    intro ag43 hag43 σ l2 l5 s0 s1 ls H locs hf hl hP hD hS
    unfold FM_flood_123 at hf
    refine lv_iadd hx hb dX9_flood_123 ?_
    refine lv_topi (fun x22 ex22 => ?_)
    have hf := nm_at ex22 hf
    refine lv_istore (lv' := [(4, .int x22), (0, .ref (h 0)), (2, .long l2), (5, .int l5)]) hx hb dX9_flood_124 hl (by decide) rfl (fun ls hl => ?_)
    exact b126 ag43 hag43 _ _ _ _ _ _ _ hf (lv_sub hl [1, 2, 0, 3] rfl) hP hD hS
  have b76 : ∀ (ag43 : MS → Int64 → Int32 → Int32 → Option (Int32 × MS)) (hag43 : ∀ (σ : MS) (l2 : Int64) (l4 : Int32) (l5 : Int32) (ls : Array Slot) (H : Heap) (locs : List Loc), ag43 σ l2 l4 l5 = some (r, σ') → lv_has ls 7 [(0, .ref (h 0)), (2, .long l2), (4, .int l4), (5, .int l5)] → va_P D vwCl (mw h cI cZ σ) H → va_D A (mw h cI cZ σ) → va_S A s.heap H locs → W p l e R s m args below meth c H locs 0 0 Q (F0 m 43 ls [])), ∀ (σ : MS) (l2 : Int64) (l4 : Int32) (l5 : Int32) (ls : Array Slot) (H : Heap) (locs : List Loc), FM_flood_76 ag43 σ l2 l4 l5 = some (r, σ') → lv_has ls 7 [(0, .ref (h 0)), (2, .long l2), (4, .int l4), (5, .int l5)] → va_P D vwCl (mw h cI cZ σ) H → va_D A (mw h cI cZ σ) → va_S A s.heap H locs → W p l e R s m args below meth c H locs 0 0 Q (F0 m 76 ls []) := by
    intro ag43 hag43 σ l2 l4 l5 ls H locs hf hl hP hD hS
    unfold FM_flood_76 at hf
    refine lv_lload_n hx hb dX9_flood_76 rfl (lv_at hl 1 rfl) ?_
    refine lv_ldc2 (v := 16807) hx hb hown c236 dX9_flood_77 ?_
    refine lv_lmul hx hb dX9_flood_80 ?_
    refine lv_ldc2 (v := 2147483647) hx hb hown c238 dX9_flood_81 ?_
    obtain ⟨g14, hf⟩ := gd_some hf
    refine lv_lrem hx hb dX9_flood_84 g14 ?_
    refine lv_topl (fun x15 ex15 => ?_)
    have hf := nm_at ex15 hf
    refine lv_lstore_n (lv' := [(2, .long x15), (0, .ref (h 0)), (4, .int l4), (5, .int l5)]) hx hb dX9_flood_85 rfl hl (by decide) rfl (fun ls hl => ?_)
    refine lv_lload_n hx hb dX9_flood_86 rfl (lv_at hl 0 rfl) ?_
    refine lv_ldc2 (v := 10) hx hb hown c240 dX9_flood_87 ?_
    obtain ⟨g16, hf⟩ := gd_some hf
    refine lv_lrem hx hb dX9_flood_90 g16 ?_
    refine lv_l2i hx hb dX9_flood_91 rfl ?_
    refine lv_topi (fun x17 ex17 => ?_)
    have hf := nm_at ex17 hf
    refine lv_istore (lv' := [(6, .int x17), (2, .long x15), (0, .ref (h 0)), (4, .int l4), (5, .int l5)]) hx hb dX9_flood_92 hl (by decide) rfl (fun ls hl => ?_)
    refine lv_aload_n hx hb dX9_flood_94 rfl (lv_at hl 2 rfl) ?_
    refine lv_iload hx hb dX9_flood_95 (lv_at hl 4 rfl) ?_
    refine lv_iconst (v := 4) hx hb dX9_flood_97 (by decide) ?_
    refine lv_aload_n hx hb dX9_flood_98 rfl (lv_at hl 2 rfl) ?_
    refine lv_iload hx hb dX9_flood_99 (lv_at hl 4 rfl) ?_
    refine lv_iconst (v := 4) hx hb dX9_flood_101 (by decide) ?_
    obtain ⟨r18, hr18, hf⟩ := bi_some hf
    refine kc_v (ci := 8) (q0 := 0) (n := 2) S hRf hRl hK hA hP hD hS hl [.int l5, .int 4] [.int 4, .int l5, .ref (h 0)] (kM_of l D h cI cZ σ l5 4 r18 hr18) gX9_flood_X9_of rfl (by decide +kernel) rfl ⟨by decide, by decide⟩ rfl rfl rfl rfl (Nat.le_of_ble_eq_true rfl) dX9_flood_102 (fun H locs hP hD hS => ?_)
    refine W.eq (g2 := F0 m 105 ls [.int r18, .int 4, .int l5, .ref (h 0)]) rfl ?_
    refine lv_iload hx hb dX9_flood_105 (lv_at hl 0 rfl) ?_
    refine lv_iadd hx hb dX9_flood_107 ?_
    obtain ⟨σ20, hr19, hf⟩ := bi_some hf
    refine kc_v (ci := 8) (q0 := 0) (n := 3) S hRf hRl hK hA hP hD hS hl [.int l5, .int 4, .int (r18 + x17)] [] (kM_becomes l D h cI cZ σ l5 4 (r18 + x17) σ20 hr19) gX9_flood_X9_becomes rfl (by decide +kernel) rfl ⟨by decide, by decide⟩ rfl rfl rfl rfl (Nat.le_of_ble_eq_true rfl) dX9_flood_108 (fun H locs hP hD hS => ?_)
    refine W.eq (g2 := F0 m 111 ls []) rfl ?_
    refine lv_iload hx hb dX9_flood_111 (lv_at hl 3 rfl) ?_
    refine lv_iload hx hb dX9_flood_113 (lv_at hl 0 rfl) ?_
    refine lv_if_le (tgt := 122) hx hb dX9_flood_115 (by decide) (fun c21 => ?_) (fun c21 => ?_)
    · have hf := (if_pos c21).symm.trans hf
      refine lv_iconst (v := 0) hx hb dX9_flood_122 (by decide) ?_
      exact b123 ag43 hag43 _ _ _ _ _ _ _ _ hf (lv_sub hl [2, 1, 4] rfl) hP hD hS
    · have hf := (if_neg c21).symm.trans hf
      refine lv_iconst (v := 1) hx hb dX9_flood_118 (by decide) ?_
      refine lv_goto (tgt := 123) hx hb dX9_flood_119 (by decide) ?_
      exact b123 ag43 hag43 _ _ _ _ _ _ _ _ hf (lv_sub hl [2, 1, 4] rfl) hP hD hS
  have b43 : ∀ (n : Nat), ∀ (σ : MS) (l2 : Int64) (l4 : Int32) (l5 : Int32) (ls : Array Slot) (H : Heap) (locs : List Loc), FM_flood_43 n σ l2 l4 l5 = some (r, σ') → lv_has ls 7 [(0, .ref (h 0)), (2, .long l2), (4, .int l4), (5, .int l5)] → va_P D vwCl (mw h cI cZ σ) H → va_D A (mw h cI cZ σ) → va_S A s.heap H locs → W p l e R s m args below meth c H locs 0 0 Q (F0 m 43 ls []) := by
    intro n
    induction n with
    | zero => intro σ l2 l4 l5 ls H locs hf; exact absurd hf (by simp [FM_flood_43])
    | succ n ih =>
      intro σ l2 l4 l5 ls H locs hf hl hP hD hS
      rw [FM_flood_43] at hf
      refine lv_iload hx hb dX9_flood_43 (lv_at hl 3 rfl) ?_
      refine lv_aload_n hx hb dX9_flood_45 rfl (lv_at hl 0 rfl) ?_
      refine Mg_5 S hin hK hP f19 dX9_flood_46 ?_
      refine lv_iconst (v := 3) hx hb dX9_flood_49 (by decide) ?_
      obtain ⟨g8, hf⟩ := gd_some hf
      refine Ml_5 S hK hP g8 dX9_flood_50 ?_
      refine lv_icmp_ge (tgt := 132) hx hb dX9_flood_51 (by decide) (fun c9 => ?_) (fun c9 => ?_)
      · have hf := (if_pos c9).symm.trans hf
        refine lv_iload hx hb dX9_flood_132 (lv_at hl 2 rfl) ?_
        exact hre _ _ _ _ _ _ hf hP hD hS dX9_flood_134
      · have hf := (if_neg c9).symm.trans hf
        refine lv_aload_n hx hb dX9_flood_54 rfl (lv_at hl 0 rfl) ?_
        refine lv_iload hx hb dX9_flood_55 (lv_at hl 3 rfl) ?_
        refine lv_iconst (v := 3) hx hb dX9_flood_57 (by decide) ?_
        obtain ⟨r10, hr10, hf⟩ := bi_some hf
        refine kc_v (ci := 8) (q0 := 0) (n := 2) S hRf hRl hK hA hP hD hS hl [.int l5, .int 3] [] (kM_of l D h cI cZ σ l5 3 r10 hr10) gX9_flood_X9_of rfl (by decide +kernel) rfl ⟨by decide, by decide⟩ rfl rfl rfl rfl (Nat.le_of_ble_eq_true rfl) dX9_flood_58 (fun H locs hP hD hS => ?_)
        refine W.eq (g2 := F0 m 61 ls [.int r10]) rfl ?_
        refine lv_iconst (v := 1) hx hb dX9_flood_61 (by decide) ?_
        refine lv_icmp_eq (tgt := 76) hx hb dX9_flood_62 (by decide) (fun c11 => ?_) (fun c11 => ?_)
        · have hf := (if_pos c11).symm.trans hf
          exact b76 (FM_flood_43 n) ih _ _ _ _ _ _ _ hf (lv_sub hl [0, 1, 2, 3] rfl) hP hD hS
        · have hf := (if_neg c11).symm.trans hf
          refine lv_aload_n hx hb dX9_flood_65 rfl (lv_at hl 0 rfl) ?_
          refine lv_iload hx hb dX9_flood_66 (lv_at hl 3 rfl) ?_
          refine lv_iconst (v := 3) hx hb dX9_flood_68 (by decide) ?_
          obtain ⟨r12, hr12, hf⟩ := bi_some hf
          refine kc_v (ci := 8) (q0 := 0) (n := 2) S hRf hRl hK hA hP hD hS hl [.int l5, .int 3] [] (kM_of l D h cI cZ σ l5 3 r12 hr12) gX9_flood_X9_of rfl (by decide +kernel) rfl ⟨by decide, by decide⟩ rfl rfl rfl rfl (Nat.le_of_ble_eq_true rfl) dX9_flood_69 (fun H locs hP hD hS => ?_)
          refine W.eq (g2 := F0 m 72 ls [.int r12]) rfl ?_
          refine lv_iconst (v := 2) hx hb dX9_flood_72 (by decide) ?_
          refine lv_icmp_ne (tgt := 126) hx hb dX9_flood_73 (by decide) (fun c13 => ?_) (fun c13 => ?_)
          · have hf := (if_neg c13).symm.trans hf
            exact b126 (FM_flood_43 n) ih _ _ _ _ _ _ _ hf (lv_sub hl [0, 1, 2, 3] rfl) hP hD hS
          · have hf := (if_pos c13).symm.trans hf
            exact b76 (FM_flood_43 n) ih _ _ _ _ _ _ _ hf (lv_sub hl [0, 1, 2, 3] rfl) hP hD hS
  unfold FM_flood at hf
  refine lv_aload_n hx hb dX9_flood_0 rfl (lv_at hl 0 rfl) ?_
  refine lv_iconst (v := 0) hx hb dX9_flood_1 (by decide) ?_
  refine Mp_0 S hin hK hP hD hS f47 dX9_flood_2 (fun H locs hP hD hS => ?_)
  obtain ⟨σ1, eσ1, hf⟩ := nm_some hf
  rw [← eσ1] at hP hD
  refine lv_aload_n hx hb dX9_flood_5 rfl (lv_at hl 0 rfl) ?_
  refine Mg_7 S hin hK hP f179 dX9_flood_6 ?_
  refine lv_if_ne (tgt := 15) hx hb dX9_flood_9 (by decide) (fun c2 => ?_) (fun c2 => ?_)
  · have hf := (if_neg c2).symm.trans hf
    refine lv_iload_n hx hb dX9_flood_15 rfl (lv_at hl 1 rfl) ?_
    refine lv_i2l hx hb dX9_flood_16 rfl ?_
    refine lv_lconst (v := 1) hx hb dX9_flood_17 (by decide) ?_
    refine lv_ldc2 (v := 999999) hx hb hown c234 dX9_flood_18 ?_
    obtain ⟨r3, hr3, hf⟩ := bi_some hf
    refine kc_s (n := 3) S hRf hRl hK hA hP hD hS hl [.long (Int32.toInt64 a1), .long 1, .long 999999] [] (kM_in l D _ _ (Int32.toInt64 a1) 1 999999 r3 hr3) gX9_flood_X9_in rfl (by decide +kernel) rfl ⟨by decide, by decide⟩ rfl (Nat.le_of_ble_eq_true rfl) dX9_flood_21 (fun H locs hP hD hS => ?_)
    refine W.eq (g2 := F0 m 24 ls [.int r3]) rfl ?_
    refine lv_if_ne (tgt := 30) hx hb dX9_flood_24 (by decide) (fun c4 => ?_) (fun c4 => ?_)
    · have hf := (if_neg c4).symm.trans hf
      refine lv_aload_n hx hb dX9_flood_30 rfl (lv_at hl 0 rfl) ?_
      obtain ⟨σ6, hr5, hf⟩ := bi_some hf
      refine kc_v (ci := 8) (q0 := 0) (n := 0) S hRf hRl hK hA hP hD hS hl [] [] (kM_keep l D h cI cZ σ1  σ6 hr5) gX9_flood_X9_keep rfl (by decide +kernel) rfl ⟨by decide, by decide⟩ rfl rfl rfl rfl (Nat.le_of_ble_eq_true rfl) dX9_flood_31 (fun H locs hP hD hS => ?_)
      refine W.eq (g2 := F0 m 34 ls []) rfl ?_
      refine lv_iload_n hx hb dX9_flood_34 rfl (lv_at hl 1 rfl) ?_
      refine lv_i2l hx hb dX9_flood_35 rfl ?_
      refine lv_topl (fun x7 ex7 => ?_)
      have hf := nm_at ex7 hf
      refine lv_lstore_n (lv' := [(2, .long x7), (0, .ref (h 0)), (1, .int a1)]) hx hb dX9_flood_36 rfl hl (by decide) rfl (fun ls hl => ?_)
      refine lv_iconst (v := 0) hx hb dX9_flood_37 (by decide) ?_
      refine lv_istore (lv' := [(4, .int 0), (2, .long x7), (0, .ref (h 0)), (1, .int a1)]) hx hb dX9_flood_38 hl (by decide) rfl (fun ls hl => ?_)
      refine lv_iconst (v := 0) hx hb dX9_flood_40 (by decide) ?_
      refine lv_istore (lv' := [(5, .int 0), (4, .int 0), (2, .long x7), (0, .ref (h 0)), (1, .int a1)]) hx hb dX9_flood_41 hl (by decide) rfl (fun ls hl => ?_)
      exact b43 fuelN _ _ _ _ _ _ _ hf (lv_sub hl [3, 2, 1, 0] rfl) hP hD hS
    · have hf := (if_pos c4).symm.trans hf
      refine lv_ldc (v := (-1000001)) hx hb hown c67 dX9_flood_27 ?_
      exact hre _ _ _ _ _ _ hf hP hD hS dX9_flood_29
  · have hf := (if_pos c2).symm.trans hf
    refine lv_ldc (v := (-1000002)) hx hb hown c210 dX9_flood_12 ?_
    exact hre _ _ _ _ _ _ hf hP hD hS dX9_flood_14
def FM_undo_27  : Nat → MS → Int32 → Option (Int32 × MS)
  | 0, _, _ => none
  | n + 1, σ, l1 => if 147 ≤ l1 then (some ((σ.1 9), σ)) else (gd (¬ ((((147 * (σ.1 9)) + l1) : Int32) < 0 ∨ 3528 ≤ Int32.toNatClampNeg ((147 * (σ.1 9)) + l1))) (gd (¬ ((l1 : Int32) < 0 ∨ 147 ≤ Int32.toNatClampNeg l1)) (nm (setA σ 5 (Int32.toNatClampNeg l1) (σ.2 8 (Int32.toNatClampNeg ((147 * (σ.1 9)) + l1)))) fun (σ7 : MS) => nm (l1 + 1) fun (x8 : Int32) => (FM_undo_27 n) σ7 x8)))
def FM_undo (σ : MS) : Option (Int32 × MS) :=
  nm (setF σ 0 0) fun (σ1 : MS) => if (σ1.1 9) = 0 then (some ((-1000002), σ1)) else (nm (setF σ1 9 ((σ1.1 9) - 1)) fun (σ3 : MS) => FM_undo_27 fuelN σ3 0)
set_option maxHeartbeats 4000000 in
set_option maxRecDepth 100000 in
theorem kM_undo (l : Launch) (D : va_G) (h : Nat → Nat) (cI cZ : ClassId) (σ : MS) (r : Int32) (σ' : MS) (hf : FM_undo σ = some (r, σ')) : KK l D [(cI, .int), (cZ, .boolean)] yX9_undo wsX9_undo 0 0 [.ref (h 0)] (mw h cI cZ σ) (some (.int r)) (mw h cI cZ σ') := by
  refine KK.ofI (own := RX9) (cc := cX9_undo) (maxL := 2) (by decide) rfl rfl (Nat.le_of_ble_eq_true rfl) ?_
  intro p e s m args below meth c R Q A ls S hRf hRl hK hA hP hD hS hl hret
  obtain ⟨hx, hb, hml, hown, hts⟩ := id S
  have hin : ∀ w ∈ wsX90, w ∈ wsX9_undo := fun w hw => List.mem_cons_of_mem _ (List.mem_append_right _ hw)
  have f47 := hts (.fieldLink RX9 47 "PenniesAwayModel" "thrown" "I") (by decide +kernel)
  have f183 := hts (.fieldLink RX9 183 "PenniesAwayModel" "acts" "I") (by decide +kernel)
  have c210 := hts (.constant RX9 210 (-1000002)) (by decide +kernel)
  have f19 := hts (.fieldLink RX9 19 "PenniesAwayModel" "realm" "[I") (by decide +kernel)
  have f25 := hts (.fieldLink RX9 25 "PenniesAwayModel" "was" "[I") (by decide +kernel)
  have hl : lv_has ls 2 [(0, .ref (h 0))] := hl
  have hre : ∀ (x : Int32) (σx : MS) (pc : Nat) (ls : Array Slot) (H : Heap) (locs : List Loc), (some (x, σx) : Option (Int32 × MS)) = some (r, σ') → va_P D vwCl (mw h cI cZ σx) H → va_D A (mw h cI cZ σx) → va_S A s.heap H locs → decode cX9_undo pc = .ok (.ireturn, 1) → W p l e R s m args below meth c H locs 0 0 Q (F0 m pc ls [.int x]) := by intro x σx pc ls H locs he; cases he; exact hret pc ls H locs
  have b27 : ∀ (n : Nat), ∀ (σ : MS) (l1 : Int32) (ls : Array Slot) (H : Heap) (locs : List Loc), FM_undo_27 n σ l1 = some (r, σ') → lv_has ls 2 [(0, .ref (h 0)), (1, .int l1)] → va_P D vwCl (mw h cI cZ σ) H → va_D A (mw h cI cZ σ) → va_S A s.heap H locs → W p l e R s m args below meth c H locs 0 0 Q (F0 m 27 ls []) := by
    intro n
    induction n with
    | zero => intro σ l1 ls H locs hf; exact absurd hf (by simp [FM_undo_27])
    | succ n ih =>
      intro σ l1 ls H locs hf hl hP hD hS
      rw [FM_undo_27] at hf
      refine lv_iload_n hx hb dX9_undo_27 rfl (lv_at hl 1 rfl) ?_
      refine lv_sipush (v := 147) hx hb dX9_undo_28 (by decide) ?_
      refine lv_icmp_ge (tgt := 61) hx hb dX9_undo_31 (by decide) (fun c4 => ?_) (fun c4 => ?_)
      · have hf := (if_pos c4).symm.trans hf
        refine lv_aload_n hx hb dX9_undo_61 rfl (lv_at hl 0 rfl) ?_
        refine Mg_9 S hin hK hP f183 dX9_undo_62 ?_
        exact hre _ _ _ _ _ _ hf hP hD hS dX9_undo_65
      · have hf := (if_neg c4).symm.trans hf
        refine lv_aload_n hx hb dX9_undo_34 rfl (lv_at hl 0 rfl) ?_
        refine Mg_5 S hin hK hP f19 dX9_undo_35 ?_
        refine lv_iload_n hx hb dX9_undo_38 rfl (lv_at hl 1 rfl) ?_
        refine lv_aload_n hx hb dX9_undo_39 rfl (lv_at hl 0 rfl) ?_
        refine Mg_8 S hin hK hP f25 dX9_undo_40 ?_
        refine lv_sipush (v := 147) hx hb dX9_undo_43 (by decide) ?_
        refine lv_aload_n hx hb dX9_undo_46 rfl (lv_at hl 0 rfl) ?_
        refine Mg_9 S hin hK hP f183 dX9_undo_47 ?_
        refine lv_imul hx hb dX9_undo_50 ?_
        refine lv_iload_n hx hb dX9_undo_51 rfl (lv_at hl 1 rfl) ?_
        refine lv_iadd hx hb dX9_undo_52 ?_
        obtain ⟨g5, hf⟩ := gd_some hf
        refine Ml_8 S hK hP g5 dX9_undo_53 ?_
        obtain ⟨g6, hf⟩ := gd_some hf
        refine Ms_5 S hK hP hD hS g6 dX9_undo_54 (fun H locs hP hD hS => ?_)
        obtain ⟨σ7, eσ7, hf⟩ := nm_some hf
        rw [← eσ7] at hP hD
        obtain ⟨x8, ex8, hf⟩ := nm_some hf
        refine lv_iinc (v := x8) (lv' := [(1, .int x8), (0, .ref (h 0))]) hx hb dX9_undo_55 hl (k := 1) rfl (by rw [ex8]; rfl) (by decide) rfl (fun ls hl => ?_)
        refine lv_goto (tgt := 27) hx hb dX9_undo_58 (by decide) ?_
        exact ih _ _ _ _ _ hf (lv_sub hl [1, 0] rfl) hP hD hS
  unfold FM_undo at hf
  refine lv_aload_n hx hb dX9_undo_0 rfl (lv_at hl 0 rfl) ?_
  refine lv_iconst (v := 0) hx hb dX9_undo_1 (by decide) ?_
  refine Mp_0 S hin hK hP hD hS f47 dX9_undo_2 (fun H locs hP hD hS => ?_)
  obtain ⟨σ1, eσ1, hf⟩ := nm_some hf
  rw [← eσ1] at hP hD
  refine lv_aload_n hx hb dX9_undo_5 rfl (lv_at hl 0 rfl) ?_
  refine Mg_9 S hin hK hP f183 dX9_undo_6 ?_
  refine lv_if_ne (tgt := 15) hx hb dX9_undo_9 (by decide) (fun c2 => ?_) (fun c2 => ?_)
  · have hf := (if_neg c2).symm.trans hf
    refine lv_aload_n hx hb dX9_undo_15 rfl (lv_at hl 0 rfl) ?_
    refine lv_dup hx hb dX9_undo_16 rfl ?_
    refine Mg_9 S hin hK hP f183 dX9_undo_17 ?_
    refine lv_iconst (v := 1) hx hb dX9_undo_20 (by decide) ?_
    refine lv_isub hx hb dX9_undo_21 ?_
    refine Mp_9 S hin hK hP hD hS f183 dX9_undo_22 (fun H locs hP hD hS => ?_)
    obtain ⟨σ3, eσ3, hf⟩ := nm_some hf
    rw [← eσ3] at hP hD
    refine lv_iconst (v := 0) hx hb dX9_undo_25 (by decide) ?_
    refine lv_istore_n (lv' := [(1, .int 0), (0, .ref (h 0))]) hx hb dX9_undo_26 rfl hl (by decide) rfl (fun ls hl => ?_)
    exact b27 fuelN _ _ _ _ _ hf (lv_sub hl [1, 0] rfl) hP hD hS
  · have hf := (if_pos c2).symm.trans hf
    refine lv_ldc (v := (-1000002)) hx hb hown c210 dX9_undo_12 ?_
    exact hre _ _ _ _ _ _ hf hP hD hS dX9_undo_14
def FM_worthOf_18 (σ : MS) : Option Int32 :=
  some 0
def FM_worthOf (σ : MS) (a1 : Int32) : Option Int32 :=
  Option.bind (FM_slackOf σ a1) fun (r1 : Int32) => if r1 ≤ 0 then (FM_worthOf_18 σ) else (Option.bind (FM_spanOf σ a1) fun (r3 : Int32) => if r3 = 0 then (FM_worthOf_18 σ) else (Option.bind (FM_spanOf σ a1) fun (r5 : Int32) => gd (¬ (r5 : Int32) = 0) (some ((100 * r1) / r5))))
set_option maxHeartbeats 4000000 in
set_option maxRecDepth 100000 in
theorem kM_worthOf (l : Launch) (D : va_G) (h : Nat → Nat) (cI cZ : ClassId) (σ : MS) (a1 : Int32) (r : Int32) (hf : FM_worthOf σ a1 = some r) : KK l D [(cI, .int), (cZ, .boolean)] yX9_worthOf wsX9_worthOf 4 88 [.ref (h 0), .int a1] (mw h cI cZ σ) (some (.int r)) (mw h cI cZ σ) := by
  refine KK.ofI (own := RX9) (cc := cX9_worthOf) (maxL := 3) (by decide) rfl rfl (Nat.le_of_ble_eq_true rfl) ?_
  intro p e s m args below meth c R Q A ls S hRf hRl hK hA hP hD hS hl hret
  obtain ⟨hx, hb, hml, hown, hts⟩ := id S
  have hin : ∀ w ∈ wsX90, w ∈ wsX9_worthOf := fun w hw => List.mem_cons_of_mem _ (List.mem_append_right _ hw)
  have hl : lv_has ls 3 [(0, .ref (h 0)), (1, .int a1)] := hl
  have hre : ∀ (x : Int32) (pc : Nat) (ls : Array Slot) (H : Heap) (locs : List Loc), (some x : Option Int32) = some r → va_P D vwCl (mw h cI cZ σ) H → va_D A (mw h cI cZ σ) → va_S A s.heap H locs → decode cX9_worthOf pc = .ok (.ireturn, 1) → W p l e R s m args below meth c H locs 0 0 Q (F0 m pc ls [.int x]) := by intro x pc ls H locs he; cases he; exact hret pc ls H locs
  have b18 : ∀ (ls : Array Slot) (H : Heap) (locs : List Loc), FM_worthOf_18 σ = some r → lv_has ls 3 [] → va_P D vwCl (mw h cI cZ σ) H → va_D A (mw h cI cZ σ) → va_S A s.heap H locs → W p l e R s m args below meth c H locs 0 0 Q (F0 m 18 ls []) := by
    intro  ls H locs hf hl hP hD hS
    unfold FM_worthOf_18 at hf
    refine lv_iconst (v := 0) hx hb dX9_worthOf_18 (by decide) ?_
    refine lv_goto (tgt := 32) hx hb dX9_worthOf_19 (by decide) ?_
    exact hre _ _ _ _ _ hf hP hD hS dX9_worthOf_32
  unfold FM_worthOf at hf
  refine lv_aload_n hx hb dX9_worthOf_0 rfl (lv_at hl 0 rfl) ?_
  refine lv_iload_n hx hb dX9_worthOf_1 rfl (lv_at hl 1 rfl) ?_
  obtain ⟨r1, hr1, hf⟩ := bi_some hf
  refine kc_v (ci := 8) (q0 := 0) (n := 1) S hRf hRl hK hA hP hD hS hl [.int a1] [] (kM_slackOf l D h cI cZ σ a1 r1 hr1) gX9_worthOf_X9_slackOf rfl (by decide +kernel) rfl ⟨by decide, by decide⟩ rfl rfl rfl rfl (Nat.le_of_ble_eq_true rfl) dX9_worthOf_2 (fun H locs hP hD hS => ?_)
  refine W.eq (g2 := F0 m 5 ls [.int r1]) rfl ?_
  refine lv_istore_n (lv' := [(2, .int r1), (0, .ref (h 0)), (1, .int a1)]) hx hb dX9_worthOf_5 rfl hl (by decide) rfl (fun ls hl => ?_)
  refine lv_iload_n hx hb dX9_worthOf_6 rfl (lv_at hl 0 rfl) ?_
  refine lv_if_le (tgt := 18) hx hb dX9_worthOf_7 (by decide) (fun c2 => ?_) (fun c2 => ?_)
  · have hf := (if_pos c2).symm.trans hf
    exact b18 _ _ _ hf (lv_sub hl [] rfl) hP hD hS
  · have hf := (if_neg c2).symm.trans hf
    refine lv_aload_n hx hb dX9_worthOf_10 rfl (lv_at hl 1 rfl) ?_
    refine lv_iload_n hx hb dX9_worthOf_11 rfl (lv_at hl 2 rfl) ?_
    obtain ⟨r3, hr3, hf⟩ := bi_some hf
    refine kc_v (ci := 8) (q0 := 0) (n := 1) S hRf hRl hK hA hP hD hS hl [.int a1] [] (kM_spanOf l D h cI cZ σ a1 r3 hr3) gX9_worthOf_X9_spanOf rfl (by decide +kernel) rfl ⟨by decide, by decide⟩ rfl rfl rfl rfl (Nat.le_of_ble_eq_true rfl) dX9_worthOf_12 (fun H locs hP hD hS => ?_)
    refine W.eq (g2 := F0 m 15 ls [.int r3]) rfl ?_
    refine lv_if_ne (tgt := 22) hx hb dX9_worthOf_15 (by decide) (fun c4 => ?_) (fun c4 => ?_)
    · have hf := (if_neg c4).symm.trans hf
      refine lv_bipush (v := 100) hx hb dX9_worthOf_22 (by decide) ?_
      refine lv_iload_n hx hb dX9_worthOf_24 rfl (lv_at hl 0 rfl) ?_
      refine lv_imul hx hb dX9_worthOf_25 ?_
      refine lv_aload_n hx hb dX9_worthOf_26 rfl (lv_at hl 1 rfl) ?_
      refine lv_iload_n hx hb dX9_worthOf_27 rfl (lv_at hl 2 rfl) ?_
      obtain ⟨r5, hr5, hf⟩ := bi_some hf
      refine kc_v (ci := 8) (q0 := 0) (n := 1) S hRf hRl hK hA hP hD hS hl [.int a1] [.int (100 * r1)] (kM_spanOf l D h cI cZ σ a1 r5 hr5) gX9_worthOf_X9_spanOf rfl (by decide +kernel) rfl ⟨by decide, by decide⟩ rfl rfl rfl rfl (Nat.le_of_ble_eq_true rfl) dX9_worthOf_28 (fun H locs hP hD hS => ?_)
      refine W.eq (g2 := F0 m 31 ls [.int r5, .int (100 * r1)]) rfl ?_
      obtain ⟨g6, hf⟩ := gd_some hf
      refine lv_idiv hx hb dX9_worthOf_31 g6 ?_
      exact hre _ _ _ _ _ hf hP hD hS dX9_worthOf_32
    · have hf := (if_pos c4).symm.trans hf
      exact b18 _ _ _ hf (lv_sub hl [] rfl) hP hD hS
def FM_coin_113 (σ : MS) (s0 : Int32) (s1 : Int32) : Option (Int32 × MS) :=
  Option.bind (FM_of σ s1 s0) fun (r14 : Int32) => some (r14, σ)
def FM_coin (σ : MS) (a1 : Int32) (a2 : Int32) : Option (Int32 × MS) :=
  nm (setF σ 0 0) fun (σ1 : MS) => Option.bind (FM_isCoin σ1 a1) fun (r2 : Int32) => if r2 = 0 then (some ((-1000001), σ1)) else (Option.bind (FM_in (Int32.toInt64 a2) 0 7) fun (r4 : Int32) => if r4 = 0 then (some ((-1000001), σ1)) else (if Int32.toInt a2 < 5 ∨ 7 < Int32.toInt a2 then (if a2 = 4 then (FM_coin_113 σ1 5 a1) else (if a2 = 3 then (FM_coin_113 σ1 4 a1) else (if a2 = 2 then (FM_coin_113 σ1 3 a1) else (if a2 = 1 then (FM_coin_113 σ1 2 a1) else (FM_coin_113 σ1 1 a1))))) else (if a2 = 5 then (Option.bind (FM_spanOf σ1 a1) fun (r13 : Int32) => some (r13, σ1)) else (if a2 = 6 then (Option.bind (FM_slackOf σ1 a1) fun (r12 : Int32) => some (r12, σ1)) else (if a2 = 7 then (Option.bind (FM_worthOf σ1 a1) fun (r11 : Int32) => some (r11, σ1)) else (none))))))
set_option maxHeartbeats 4000000 in
set_option maxRecDepth 100000 in
theorem kM_coin (l : Launch) (D : va_G) (h : Nat → Nat) (cI cZ : ClassId) (σ : MS) (a1 : Int32) (a2 : Int32) (r : Int32) (σ' : MS) (hf : FM_coin σ a1 a2 = some (r, σ')) : KK l D [(cI, .int), (cZ, .boolean)] yX9_coin wsX9_coin 5 110 [.ref (h 0), .int a1, .int a2] (mw h cI cZ σ) (some (.int r)) (mw h cI cZ σ') := by
  refine KK.ofI (own := RX9) (cc := cX9_coin) (maxL := 3) (by decide) rfl rfl (Nat.le_of_ble_eq_true rfl) ?_
  intro p e s m args below meth c R Q A ls S hRf hRl hK hA hP hD hS hl hret
  obtain ⟨hx, hb, hml, hown, hts⟩ := id S
  have hin : ∀ w ∈ wsX90, w ∈ wsX9_coin := fun w hw => List.mem_cons_of_mem _ (List.mem_append_right _ hw)
  have f47 := hts (.fieldLink RX9 47 "PenniesAwayModel" "thrown" "I") (by decide +kernel)
  have c67 := hts (.constant RX9 67 (-1000001)) (by decide +kernel)
  have c55 := hts (.constantLong RX9 55 (7)) (by decide +kernel)
  have hl : lv_has ls 3 [(0, .ref (h 0)), (1, .int a1), (2, .int a2)] := hl
  have hre : ∀ (x : Int32) (σx : MS) (pc : Nat) (ls : Array Slot) (H : Heap) (locs : List Loc), (some (x, σx) : Option (Int32 × MS)) = some (r, σ') → va_P D vwCl (mw h cI cZ σx) H → va_D A (mw h cI cZ σx) → va_S A s.heap H locs → decode cX9_coin pc = .ok (.ireturn, 1) → W p l e R s m args below meth c H locs 0 0 Q (F0 m pc ls [.int x]) := by intro x σx pc ls H locs he; cases he; exact hret pc ls H locs
  have b113 : ∀ (σ : MS) (s0 : Int32) (s1 : Int32) (ls : Array Slot) (H : Heap) (locs : List Loc), FM_coin_113 σ s0 s1 = some (r, σ') → lv_has ls 3 [] → va_P D vwCl (mw h cI cZ σ) H → va_D A (mw h cI cZ σ) → va_S A s.heap H locs → W p l e R s m args below meth c H locs 0 0 Q (F0 m 113 ls [.int s0, .int s1, .ref (h 0)]) := by
    intro σ s0 s1 ls H locs hf hl hP hD hS
    unfold FM_coin_113 at hf
    obtain ⟨r14, hr14, hf⟩ := bi_some hf
    refine kc_v (ci := 8) (q0 := 0) (n := 2) S hRf hRl hK hA hP hD hS hl [.int s1, .int s0] [] (kM_of l D h cI cZ σ s1 s0 r14 hr14) gX9_coin_X9_of rfl (by decide +kernel) rfl ⟨by decide, by decide⟩ rfl rfl rfl rfl (Nat.le_of_ble_eq_true rfl) dX9_coin_113 (fun H locs hP hD hS => ?_)
    refine W.eq (g2 := F0 m 116 ls [.int r14]) rfl ?_
    exact hre _ _ _ _ _ _ hf hP hD hS dX9_coin_116
  unfold FM_coin at hf
  refine lv_aload_n hx hb dX9_coin_0 rfl (lv_at hl 0 rfl) ?_
  refine lv_iconst (v := 0) hx hb dX9_coin_1 (by decide) ?_
  refine Mp_0 S hin hK hP hD hS f47 dX9_coin_2 (fun H locs hP hD hS => ?_)
  obtain ⟨σ1, eσ1, hf⟩ := nm_some hf
  rw [← eσ1] at hP hD
  refine lv_aload_n hx hb dX9_coin_5 rfl (lv_at hl 0 rfl) ?_
  refine lv_iload_n hx hb dX9_coin_6 rfl (lv_at hl 1 rfl) ?_
  obtain ⟨r2, hr2, hf⟩ := bi_some hf
  refine kc_v (ci := 8) (q0 := 0) (n := 1) S hRf hRl hK hA hP hD hS hl [.int a1] [] (kM_isCoin l D h cI cZ σ1 a1 r2 hr2) gX9_coin_X9_isCoin rfl (by decide +kernel) rfl ⟨by decide, by decide⟩ rfl rfl rfl rfl (Nat.le_of_ble_eq_true rfl) dX9_coin_7 (fun H locs hP hD hS => ?_)
  refine W.eq (g2 := F0 m 10 ls [.int r2]) rfl ?_
  refine lv_if_eq (tgt := 25) hx hb dX9_coin_10 (by decide) (fun c3 => ?_) (fun c3 => ?_)
  · have hf := (if_pos c3).symm.trans hf
    refine lv_ldc (v := (-1000001)) hx hb hown c67 dX9_coin_25 ?_
    exact hre _ _ _ _ _ _ hf hP hD hS dX9_coin_27
  · have hf := (if_neg c3).symm.trans hf
    refine lv_iload_n hx hb dX9_coin_13 rfl (lv_at hl 2 rfl) ?_
    refine lv_i2l hx hb dX9_coin_14 rfl ?_
    refine lv_lconst (v := 0) hx hb dX9_coin_15 (by decide) ?_
    refine lv_ldc2 (v := 7) hx hb hown c55 dX9_coin_16 ?_
    obtain ⟨r4, hr4, hf⟩ := bi_some hf
    refine kc_s (n := 3) S hRf hRl hK hA hP hD hS hl [.long (Int32.toInt64 a2), .long 0, .long 7] [] (kM_in l D _ _ (Int32.toInt64 a2) 0 7 r4 hr4) gX9_coin_X9_in rfl (by decide +kernel) rfl ⟨by decide, by decide⟩ rfl (Nat.le_of_ble_eq_true rfl) dX9_coin_19 (fun H locs hP hD hS => ?_)
    refine W.eq (g2 := F0 m 22 ls [.int r4]) rfl ?_
    refine lv_if_ne (tgt := 28) hx hb dX9_coin_22 (by decide) (fun c5 => ?_) (fun c5 => ?_)
    · have hf := (if_neg c5).symm.trans hf
      refine lv_iload_n hx hb dX9_coin_28 rfl (lv_at hl 2 rfl) ?_
      by_cases c6 : Int32.toInt a2 < 5 ∨ 7 < Int32.toInt a2
      · have hf := (if_pos c6).symm.trans hf
        refine lv_tableOut (tgt := 74) hx hb dX9_coin_29 c6 (by decide) ?_
        refine lv_aload_n hx hb dX9_coin_74 rfl (lv_at hl 0 rfl) ?_
        refine lv_iload_n hx hb dX9_coin_75 rfl (lv_at hl 1 rfl) ?_
        refine lv_iload_n hx hb dX9_coin_76 rfl (lv_at hl 2 rfl) ?_
        refine lv_iconst (v := 4) hx hb dX9_coin_77 (by decide) ?_
        refine lv_icmp_ne (tgt := 85) hx hb dX9_coin_78 (by decide) (fun c7 => ?_) (fun c7 => ?_)
        · have hf := (if_neg c7).symm.trans hf
          refine lv_iload_n hx hb dX9_coin_85 rfl (lv_at hl 2 rfl) ?_
          refine lv_iconst (v := 3) hx hb dX9_coin_86 (by decide) ?_
          refine lv_icmp_ne (tgt := 94) hx hb dX9_coin_87 (by decide) (fun c8 => ?_) (fun c8 => ?_)
          · have hf := (if_neg c8).symm.trans hf
            refine lv_iload_n hx hb dX9_coin_94 rfl (lv_at hl 2 rfl) ?_
            refine lv_iconst (v := 2) hx hb dX9_coin_95 (by decide) ?_
            refine lv_icmp_ne (tgt := 103) hx hb dX9_coin_96 (by decide) (fun c9 => ?_) (fun c9 => ?_)
            · have hf := (if_neg c9).symm.trans hf
              refine lv_iload_n hx hb dX9_coin_103 rfl (lv_at hl 2 rfl) ?_
              refine lv_iconst (v := 1) hx hb dX9_coin_104 (by decide) ?_
              refine lv_icmp_ne (tgt := 112) hx hb dX9_coin_105 (by decide) (fun c10 => ?_) (fun c10 => ?_)
              · have hf := (if_neg c10).symm.trans hf
                refine lv_iconst (v := 1) hx hb dX9_coin_112 (by decide) ?_
                exact b113 _ _ _ _ _ _ hf (lv_sub hl [] rfl) hP hD hS
              · have hf := (if_pos c10).symm.trans hf
                refine lv_iconst (v := 2) hx hb dX9_coin_108 (by decide) ?_
                refine lv_goto (tgt := 113) hx hb dX9_coin_109 (by decide) ?_
                exact b113 _ _ _ _ _ _ hf (lv_sub hl [] rfl) hP hD hS
            · have hf := (if_pos c9).symm.trans hf
              refine lv_iconst (v := 3) hx hb dX9_coin_99 (by decide) ?_
              refine lv_goto (tgt := 113) hx hb dX9_coin_100 (by decide) ?_
              exact b113 _ _ _ _ _ _ hf (lv_sub hl [] rfl) hP hD hS
          · have hf := (if_pos c8).symm.trans hf
            refine lv_iconst (v := 4) hx hb dX9_coin_90 (by decide) ?_
            refine lv_goto (tgt := 113) hx hb dX9_coin_91 (by decide) ?_
            exact b113 _ _ _ _ _ _ hf (lv_sub hl [] rfl) hP hD hS
        · have hf := (if_pos c7).symm.trans hf
          refine lv_iconst (v := 5) hx hb dX9_coin_81 (by decide) ?_
          refine lv_goto (tgt := 113) hx hb dX9_coin_82 (by decide) ?_
          exact b113 _ _ _ _ _ _ hf (lv_sub hl [] rfl) hP hD hS
      · have hf := (if_neg c6).symm.trans hf
        by_cases c6k5 : a2 = 5
        · have hf := (if_pos c6k5).symm.trans hf
          refine lv_tableIn (tgt := 56) hx hb dX9_coin_29 (by rw [c6k5]; decide) (by rw [c6k5]; decide) (by rw [c6k5]; rfl) (by decide) ?_
          refine lv_aload_n hx hb dX9_coin_56 rfl (lv_at hl 0 rfl) ?_
          refine lv_iload_n hx hb dX9_coin_57 rfl (lv_at hl 1 rfl) ?_
          obtain ⟨r13, hr13, hf⟩ := bi_some hf
          refine kc_v (ci := 8) (q0 := 0) (n := 1) S hRf hRl hK hA hP hD hS hl [.int a1] [] (kM_spanOf l D h cI cZ σ1 a1 r13 hr13) gX9_coin_X9_spanOf rfl (by decide +kernel) rfl ⟨by decide, by decide⟩ rfl rfl rfl rfl (Nat.le_of_ble_eq_true rfl) dX9_coin_58 (fun H locs hP hD hS => ?_)
          refine W.eq (g2 := F0 m 61 ls [.int r13]) rfl ?_
          exact hre _ _ _ _ _ _ hf hP hD hS dX9_coin_61
        · have hf := (if_neg c6k5).symm.trans hf
          by_cases c6k6 : a2 = 6
          · have hf := (if_pos c6k6).symm.trans hf
            refine lv_tableIn (tgt := 62) hx hb dX9_coin_29 (by rw [c6k6]; decide) (by rw [c6k6]; decide) (by rw [c6k6]; rfl) (by decide) ?_
            refine lv_aload_n hx hb dX9_coin_62 rfl (lv_at hl 0 rfl) ?_
            refine lv_iload_n hx hb dX9_coin_63 rfl (lv_at hl 1 rfl) ?_
            obtain ⟨r12, hr12, hf⟩ := bi_some hf
            refine kc_v (ci := 8) (q0 := 0) (n := 1) S hRf hRl hK hA hP hD hS hl [.int a1] [] (kM_slackOf l D h cI cZ σ1 a1 r12 hr12) gX9_coin_X9_slackOf rfl (by decide +kernel) rfl ⟨by decide, by decide⟩ rfl rfl rfl rfl (Nat.le_of_ble_eq_true rfl) dX9_coin_64 (fun H locs hP hD hS => ?_)
            refine W.eq (g2 := F0 m 67 ls [.int r12]) rfl ?_
            exact hre _ _ _ _ _ _ hf hP hD hS dX9_coin_67
          · have hf := (if_neg c6k6).symm.trans hf
            by_cases c6k7 : a2 = 7
            · have hf := (if_pos c6k7).symm.trans hf
              refine lv_tableIn (tgt := 68) hx hb dX9_coin_29 (by rw [c6k7]; decide) (by rw [c6k7]; decide) (by rw [c6k7]; rfl) (by decide) ?_
              refine lv_aload_n hx hb dX9_coin_68 rfl (lv_at hl 0 rfl) ?_
              refine lv_iload_n hx hb dX9_coin_69 rfl (lv_at hl 1 rfl) ?_
              obtain ⟨r11, hr11, hf⟩ := bi_some hf
              refine kc_v (ci := 8) (q0 := 0) (n := 1) S hRf hRl hK hA hP hD hS hl [.int a1] [] (kM_worthOf l D h cI cZ σ1 a1 r11 hr11) gX9_coin_X9_worthOf rfl (by decide +kernel) rfl ⟨by decide, by decide⟩ rfl rfl rfl rfl (Nat.le_of_ble_eq_true rfl) dX9_coin_70 (fun H locs hP hD hS => ?_)
              refine W.eq (g2 := F0 m 73 ls [.int r11]) rfl ?_
              exact hre _ _ _ _ _ _ hf hP hD hS dX9_coin_73
            · have hf := (if_neg c6k7).symm.trans hf
              exact absurd hf (by simp)
    · have hf := (if_pos c5).symm.trans hf
      refine lv_ldc (v := (-1000001)) hx hb hown c67 dX9_coin_25 ?_
      exact hre _ _ _ _ _ _ hf hP hD hS dX9_coin_27
def FM_far (σ : MS) (a1 : Int32) (a2 : Int32) : Option (Int32 × MS) :=
  nm (setF σ 0 0) fun (σ1 : MS) => if (σ1.1 7) = 0 then (some ((-1000002), σ1)) else (Option.bind (FM_in (Int32.toInt64 a1) 0 7) fun (r3 : Int32) => if r3 = 0 then (some ((-1000001), σ1)) else (Option.bind (FM_in (Int32.toInt64 a2) 0 7) fun (r5 : Int32) => if r5 = 0 then (some ((-1000001), σ1)) else (Option.bind (FM_farOf σ1 a1 a2) fun (r7 : Int32) => if 10000 ≤ r7 then (some ((-1000000), σ1)) else (Option.bind (FM_farOf σ1 a1 a2) fun (r9 : Int32) => some (r9, σ1)))))
set_option maxHeartbeats 4000000 in
set_option maxRecDepth 100000 in
theorem kM_far (l : Launch) (D : va_G) (h : Nat → Nat) (cI cZ : ClassId) (σ : MS) (a1 : Int32) (a2 : Int32) (r : Int32) (σ' : MS) (hf : FM_far σ a1 a2 = some (r, σ')) : KK l D [(cI, .int), (cZ, .boolean)] yX9_far wsX9_far 1 25 [.ref (h 0), .int a1, .int a2] (mw h cI cZ σ) (some (.int r)) (mw h cI cZ σ') := by
  refine KK.ofI (own := RX9) (cc := cX9_far) (maxL := 3) (by decide) rfl rfl (Nat.le_of_ble_eq_true rfl) ?_
  intro p e s m args below meth c R Q A ls S hRf hRl hK hA hP hD hS hl hret
  obtain ⟨hx, hb, hml, hown, hts⟩ := id S
  have hin : ∀ w ∈ wsX90, w ∈ wsX9_far := fun w hw => List.mem_cons_of_mem _ (List.mem_append_right _ hw)
  have f47 := hts (.fieldLink RX9 47 "PenniesAwayModel" "thrown" "I") (by decide +kernel)
  have f179 := hts (.fieldLink RX9 179 "PenniesAwayModel" "isThere" "Z") (by decide +kernel)
  have c55 := hts (.constantLong RX9 55 (7)) (by decide +kernel)
  have c67 := hts (.constant RX9 67 (-1000001)) (by decide +kernel)
  have c83 := hts (.constant RX9 83 (-1000000)) (by decide +kernel)
  have c210 := hts (.constant RX9 210 (-1000002)) (by decide +kernel)
  have hl : lv_has ls 3 [(0, .ref (h 0)), (1, .int a1), (2, .int a2)] := hl
  have hre : ∀ (x : Int32) (σx : MS) (pc : Nat) (ls : Array Slot) (H : Heap) (locs : List Loc), (some (x, σx) : Option (Int32 × MS)) = some (r, σ') → va_P D vwCl (mw h cI cZ σx) H → va_D A (mw h cI cZ σx) → va_S A s.heap H locs → decode cX9_far pc = .ok (.ireturn, 1) → W p l e R s m args below meth c H locs 0 0 Q (F0 m pc ls [.int x]) := by intro x σx pc ls H locs he; cases he; exact hret pc ls H locs
  unfold FM_far at hf
  refine lv_aload_n hx hb dX9_far_0 rfl (lv_at hl 0 rfl) ?_
  refine lv_iconst (v := 0) hx hb dX9_far_1 (by decide) ?_
  refine Mp_0 S hin hK hP hD hS f47 dX9_far_2 (fun H locs hP hD hS => ?_)
  obtain ⟨σ1, eσ1, hf⟩ := nm_some hf
  rw [← eσ1] at hP hD
  refine lv_aload_n hx hb dX9_far_5 rfl (lv_at hl 0 rfl) ?_
  refine Mg_7 S hin hK hP f179 dX9_far_6 ?_
  refine lv_if_ne (tgt := 15) hx hb dX9_far_9 (by decide) (fun c2 => ?_) (fun c2 => ?_)
  · have hf := (if_neg c2).symm.trans hf
    refine lv_iload_n hx hb dX9_far_15 rfl (lv_at hl 1 rfl) ?_
    refine lv_i2l hx hb dX9_far_16 rfl ?_
    refine lv_lconst (v := 0) hx hb dX9_far_17 (by decide) ?_
    refine lv_ldc2 (v := 7) hx hb hown c55 dX9_far_18 ?_
    obtain ⟨r3, hr3, hf⟩ := bi_some hf
    refine kc_s (n := 3) S hRf hRl hK hA hP hD hS hl [.long (Int32.toInt64 a1), .long 0, .long 7] [] (kM_in l D _ _ (Int32.toInt64 a1) 0 7 r3 hr3) gX9_far_X9_in rfl (by decide +kernel) rfl ⟨by decide, by decide⟩ rfl (Nat.le_of_ble_eq_true rfl) dX9_far_21 (fun H locs hP hD hS => ?_)
    refine W.eq (g2 := F0 m 24 ls [.int r3]) rfl ?_
    refine lv_if_eq (tgt := 39) hx hb dX9_far_24 (by decide) (fun c4 => ?_) (fun c4 => ?_)
    · have hf := (if_pos c4).symm.trans hf
      refine lv_ldc (v := (-1000001)) hx hb hown c67 dX9_far_39 ?_
      exact hre _ _ _ _ _ _ hf hP hD hS dX9_far_41
    · have hf := (if_neg c4).symm.trans hf
      refine lv_iload_n hx hb dX9_far_27 rfl (lv_at hl 2 rfl) ?_
      refine lv_i2l hx hb dX9_far_28 rfl ?_
      refine lv_lconst (v := 0) hx hb dX9_far_29 (by decide) ?_
      refine lv_ldc2 (v := 7) hx hb hown c55 dX9_far_30 ?_
      obtain ⟨r5, hr5, hf⟩ := bi_some hf
      refine kc_s (n := 3) S hRf hRl hK hA hP hD hS hl [.long (Int32.toInt64 a2), .long 0, .long 7] [] (kM_in l D _ _ (Int32.toInt64 a2) 0 7 r5 hr5) gX9_far_X9_in rfl (by decide +kernel) rfl ⟨by decide, by decide⟩ rfl (Nat.le_of_ble_eq_true rfl) dX9_far_33 (fun H locs hP hD hS => ?_)
      refine W.eq (g2 := F0 m 36 ls [.int r5]) rfl ?_
      refine lv_if_ne (tgt := 42) hx hb dX9_far_36 (by decide) (fun c6 => ?_) (fun c6 => ?_)
      · have hf := (if_neg c6).symm.trans hf
        refine lv_aload_n hx hb dX9_far_42 rfl (lv_at hl 0 rfl) ?_
        refine lv_iload_n hx hb dX9_far_43 rfl (lv_at hl 1 rfl) ?_
        refine lv_iload_n hx hb dX9_far_44 rfl (lv_at hl 2 rfl) ?_
        obtain ⟨r7, hr7, hf⟩ := bi_some hf
        refine kc_v (ci := 8) (q0 := 0) (n := 2) S hRf hRl hK hA hP hD hS hl [.int a1, .int a2] [] (kM_farOf l D h cI cZ σ1 a1 a2 r7 hr7) gX9_far_X9_farOf rfl (by decide +kernel) rfl ⟨by decide, by decide⟩ rfl rfl rfl rfl (Nat.le_of_ble_eq_true rfl) dX9_far_45 (fun H locs hP hD hS => ?_)
        refine W.eq (g2 := F0 m 48 ls [.int r7]) rfl ?_
        refine lv_sipush (v := 10000) hx hb dX9_far_48 (by decide) ?_
        refine lv_icmp_ge (tgt := 63) hx hb dX9_far_51 (by decide) (fun c8 => ?_) (fun c8 => ?_)
        · have hf := (if_pos c8).symm.trans hf
          refine lv_ldc (v := (-1000000)) hx hb hown c83 dX9_far_63 ?_
          exact hre _ _ _ _ _ _ hf hP hD hS dX9_far_65
        · have hf := (if_neg c8).symm.trans hf
          refine lv_aload_n hx hb dX9_far_54 rfl (lv_at hl 0 rfl) ?_
          refine lv_iload_n hx hb dX9_far_55 rfl (lv_at hl 1 rfl) ?_
          refine lv_iload_n hx hb dX9_far_56 rfl (lv_at hl 2 rfl) ?_
          obtain ⟨r9, hr9, hf⟩ := bi_some hf
          refine kc_v (ci := 8) (q0 := 0) (n := 2) S hRf hRl hK hA hP hD hS hl [.int a1, .int a2] [] (kM_farOf l D h cI cZ σ1 a1 a2 r9 hr9) gX9_far_X9_farOf rfl (by decide +kernel) rfl ⟨by decide, by decide⟩ rfl rfl rfl rfl (Nat.le_of_ble_eq_true rfl) dX9_far_57 (fun H locs hP hD hS => ?_)
          refine W.eq (g2 := F0 m 60 ls [.int r9]) rfl ?_
          refine lv_goto (tgt := 65) hx hb dX9_far_60 (by decide) ?_
          exact hre _ _ _ _ _ _ hf hP hD hS dX9_far_65
      · have hf := (if_pos c6).symm.trans hf
        refine lv_ldc (v := (-1000001)) hx hb hown c67 dX9_far_39 ?_
        exact hre _ _ _ _ _ _ hf hP hD hS dX9_far_41
  · have hf := (if_pos c2).symm.trans hf
    refine lv_ldc (v := (-1000002)) hx hb hown c210 dX9_far_12 ?_
    exact hre _ _ _ _ _ _ hf hP hD hS dX9_far_14
def FM_late_53 (ag19 : MS → Int32 → Int32 → Option (Int32 × MS)) (σ : MS) (l2 : Int32) (s0 : Int32) (s1 : Int32) : Option (Int32 × MS) :=
  nm (s1 ||| s0) fun (x8 : Int32) => nm (l2 + 1) fun (x9 : Int32) => ag19 σ x8 x9
def FM_late_52 (ag19 : MS → Int32 → Int32 → Option (Int32 × MS)) (σ : MS) (l2 : Int32) (s0 : Int32) : Option (Int32 × MS) :=
  FM_late_53 ag19 σ l2 0 s0
def FM_late_19  : Nat → MS → Int32 → Int32 → Option (Int32 × MS)
  | 0, _, _, _ => none
  | n + 1, σ, l1, l2 => gd (¬ ((3 : Int32) < 0 ∨ 147 ≤ Int32.toNatClampNeg 3)) (if (σ.2 5 (Int32.toNatClampNeg 3)) ≤ l2 then (some (l1, σ)) else (Option.bind (FM_slackOf σ l2) fun (r5 : Int32) => if r5 = (-1000000) then (FM_late_52 (FM_late_19 n) σ l2 l1) else (if 0 ≤ r5 then (FM_late_52 (FM_late_19 n) σ l2 l1) else (FM_late_53 (FM_late_19 n) σ l2 (1 <<< (l2 &&& 31)) l1))))
def FM_late (σ : MS) : Option (Int32 × MS) :=
  nm (setF σ 0 0) fun (σ1 : MS) => if (σ1.1 7) = 0 then (some ((-1000002), σ1)) else (FM_late_19 fuelN σ1 0 0)
set_option maxHeartbeats 4000000 in
set_option maxRecDepth 100000 in
theorem kM_late (l : Launch) (D : va_G) (h : Nat → Nat) (cI cZ : ClassId) (σ : MS) (r : Int32) (σ' : MS) (hf : FM_late σ = some (r, σ')) : KK l D [(cI, .int), (cZ, .boolean)] yX9_late wsX9_late 4 88 [.ref (h 0)] (mw h cI cZ σ) (some (.int r)) (mw h cI cZ σ') := by
  refine KK.ofI (own := RX9) (cc := cX9_late) (maxL := 4) (by decide) rfl rfl (Nat.le_of_ble_eq_true rfl) ?_
  intro p e s m args below meth c R Q A ls S hRf hRl hK hA hP hD hS hl hret
  obtain ⟨hx, hb, hml, hown, hts⟩ := id S
  have hin : ∀ w ∈ wsX90, w ∈ wsX9_late := fun w hw => List.mem_cons_of_mem _ (List.mem_append_right _ hw)
  have f47 := hts (.fieldLink RX9 47 "PenniesAwayModel" "thrown" "I") (by decide +kernel)
  have f179 := hts (.fieldLink RX9 179 "PenniesAwayModel" "isThere" "Z") (by decide +kernel)
  have c210 := hts (.constant RX9 210 (-1000002)) (by decide +kernel)
  have f19 := hts (.fieldLink RX9 19 "PenniesAwayModel" "realm" "[I") (by decide +kernel)
  have c83 := hts (.constant RX9 83 (-1000000)) (by decide +kernel)
  have hl : lv_has ls 4 [(0, .ref (h 0))] := hl
  have hre : ∀ (x : Int32) (σx : MS) (pc : Nat) (ls : Array Slot) (H : Heap) (locs : List Loc), (some (x, σx) : Option (Int32 × MS)) = some (r, σ') → va_P D vwCl (mw h cI cZ σx) H → va_D A (mw h cI cZ σx) → va_S A s.heap H locs → decode cX9_late pc = .ok (.ireturn, 1) → W p l e R s m args below meth c H locs 0 0 Q (F0 m pc ls [.int x]) := by intro x σx pc ls H locs he; cases he; exact hret pc ls H locs
  have b53 : ∀ (ag19 : MS → Int32 → Int32 → Option (Int32 × MS)) (hag19 : ∀ (σ : MS) (l1 : Int32) (l2 : Int32) (ls : Array Slot) (H : Heap) (locs : List Loc), ag19 σ l1 l2 = some (r, σ') → lv_has ls 4 [(0, .ref (h 0)), (1, .int l1), (2, .int l2)] → va_P D vwCl (mw h cI cZ σ) H → va_D A (mw h cI cZ σ) → va_S A s.heap H locs → W p l e R s m args below meth c H locs 0 0 Q (F0 m 19 ls [])), ∀ (σ : MS) (l2 : Int32) (s0 : Int32) (s1 : Int32) (ls : Array Slot) (H : Heap) (locs : List Loc), FM_late_53 ag19 σ l2 s0 s1 = some (r, σ') → lv_has ls 4 [(0, .ref (h 0)), (2, .int l2)] → va_P D vwCl (mw h cI cZ σ) H → va_D A (mw h cI cZ σ) → va_S A s.heap H locs → W p l e R s m args below meth c H locs 0 0 Q (F0 m 53 ls [.int s0, .int s1]) := by
    intro ag19 hag19 σ l2 s0 s1 ls H locs hf hl hP hD hS
    unfold FM_late_53 at hf
    refine lv_ior hx hb dX9_late_53 ?_
    refine lv_topi (fun x8 ex8 => ?_)
    have hf := nm_at ex8 hf
    refine lv_istore_n (lv' := [(1, .int x8), (0, .ref (h 0)), (2, .int l2)]) hx hb dX9_late_54 rfl hl (by decide) rfl (fun ls hl => ?_)
    obtain ⟨x9, ex9, hf⟩ := nm_some hf
    refine lv_iinc (v := x9) (lv' := [(2, .int x9), (1, .int x8), (0, .ref (h 0))]) hx hb dX9_late_55 hl (k := 2) rfl (by rw [ex9]; rfl) (by decide) rfl (fun ls hl => ?_)
    refine lv_goto (tgt := 19) hx hb dX9_late_58 (by decide) ?_
    exact hag19 _ _ _ _ _ _ hf (lv_sub hl [2, 1, 0] rfl) hP hD hS
  have b52 : ∀ (ag19 : MS → Int32 → Int32 → Option (Int32 × MS)) (hag19 : ∀ (σ : MS) (l1 : Int32) (l2 : Int32) (ls : Array Slot) (H : Heap) (locs : List Loc), ag19 σ l1 l2 = some (r, σ') → lv_has ls 4 [(0, .ref (h 0)), (1, .int l1), (2, .int l2)] → va_P D vwCl (mw h cI cZ σ) H → va_D A (mw h cI cZ σ) → va_S A s.heap H locs → W p l e R s m args below meth c H locs 0 0 Q (F0 m 19 ls [])), ∀ (σ : MS) (l2 : Int32) (s0 : Int32) (ls : Array Slot) (H : Heap) (locs : List Loc), FM_late_52 ag19 σ l2 s0 = some (r, σ') → lv_has ls 4 [(0, .ref (h 0)), (2, .int l2)] → va_P D vwCl (mw h cI cZ σ) H → va_D A (mw h cI cZ σ) → va_S A s.heap H locs → W p l e R s m args below meth c H locs 0 0 Q (F0 m 52 ls [.int s0]) := by
    intro ag19 hag19 σ l2 s0 ls H locs hf hl hP hD hS
    unfold FM_late_52 at hf
    refine lv_iconst (v := 0) hx hb dX9_late_52 (by decide) ?_
    exact b53 ag19 hag19 _ _ _ _ _ _ _ hf (lv_sub hl [0, 1] rfl) hP hD hS
  have b19 : ∀ (n : Nat), ∀ (σ : MS) (l1 : Int32) (l2 : Int32) (ls : Array Slot) (H : Heap) (locs : List Loc), FM_late_19 n σ l1 l2 = some (r, σ') → lv_has ls 4 [(0, .ref (h 0)), (1, .int l1), (2, .int l2)] → va_P D vwCl (mw h cI cZ σ) H → va_D A (mw h cI cZ σ) → va_S A s.heap H locs → W p l e R s m args below meth c H locs 0 0 Q (F0 m 19 ls []) := by
    intro n
    induction n with
    | zero => intro σ l1 l2 ls H locs hf; exact absurd hf (by simp [FM_late_19])
    | succ n ih =>
      intro σ l1 l2 ls H locs hf hl hP hD hS
      rw [FM_late_19] at hf
      refine lv_iload_n hx hb dX9_late_19 rfl (lv_at hl 2 rfl) ?_
      refine lv_aload_n hx hb dX9_late_20 rfl (lv_at hl 0 rfl) ?_
      refine Mg_5 S hin hK hP f19 dX9_late_21 ?_
      refine lv_iconst (v := 3) hx hb dX9_late_24 (by decide) ?_
      obtain ⟨g3, hf⟩ := gd_some hf
      refine Ml_5 S hK hP g3 dX9_late_25 ?_
      refine lv_icmp_ge (tgt := 61) hx hb dX9_late_26 (by decide) (fun c4 => ?_) (fun c4 => ?_)
      · have hf := (if_pos c4).symm.trans hf
        refine lv_iload_n hx hb dX9_late_61 rfl (lv_at hl 1 rfl) ?_
        exact hre _ _ _ _ _ _ hf hP hD hS dX9_late_62
      · have hf := (if_neg c4).symm.trans hf
        refine lv_aload_n hx hb dX9_late_29 rfl (lv_at hl 0 rfl) ?_
        refine lv_iload_n hx hb dX9_late_30 rfl (lv_at hl 2 rfl) ?_
        obtain ⟨r5, hr5, hf⟩ := bi_some hf
        refine kc_v (ci := 8) (q0 := 0) (n := 1) S hRf hRl hK hA hP hD hS hl [.int l2] [] (kM_slackOf l D h cI cZ σ l2 r5 hr5) gX9_late_X9_slackOf rfl (by decide +kernel) rfl ⟨by decide, by decide⟩ rfl rfl rfl rfl (Nat.le_of_ble_eq_true rfl) dX9_late_31 (fun H locs hP hD hS => ?_)
        refine W.eq (g2 := F0 m 34 ls [.int r5]) rfl ?_
        refine lv_istore_n (lv' := [(3, .int r5), (0, .ref (h 0)), (1, .int l1), (2, .int l2)]) hx hb dX9_late_34 rfl hl (by decide) rfl (fun ls hl => ?_)
        refine lv_iload_n hx hb dX9_late_35 rfl (lv_at hl 2 rfl) ?_
        refine lv_iload_n hx hb dX9_late_36 rfl (lv_at hl 0 rfl) ?_
        refine lv_ldc (v := (-1000000)) hx hb hown c83 dX9_late_37 ?_
        refine lv_icmp_eq (tgt := 52) hx hb dX9_late_39 (by decide) (fun c6 => ?_) (fun c6 => ?_)
        · have hf := (if_pos c6).symm.trans hf
          exact b52 (FM_late_19 n) ih _ _ _ _ _ _ hf (lv_sub hl [1, 3] rfl) hP hD hS
        · have hf := (if_neg c6).symm.trans hf
          refine lv_iload_n hx hb dX9_late_42 rfl (lv_at hl 0 rfl) ?_
          refine lv_if_ge (tgt := 52) hx hb dX9_late_43 (by decide) (fun c7 => ?_) (fun c7 => ?_)
          · have hf := (if_pos c7).symm.trans hf
            exact b52 (FM_late_19 n) ih _ _ _ _ _ _ hf (lv_sub hl [1, 3] rfl) hP hD hS
          · have hf := (if_neg c7).symm.trans hf
            refine lv_iconst (v := 1) hx hb dX9_late_46 (by decide) ?_
            refine lv_iload_n hx hb dX9_late_47 rfl (lv_at hl 3 rfl) ?_
            refine lv_ishl hx hb dX9_late_48 ?_
            refine lv_goto (tgt := 53) hx hb dX9_late_49 (by decide) ?_
            exact b53 (FM_late_19 n) ih _ _ _ _ _ _ _ hf (lv_sub hl [1, 3] rfl) hP hD hS
  unfold FM_late at hf
  refine lv_aload_n hx hb dX9_late_0 rfl (lv_at hl 0 rfl) ?_
  refine lv_iconst (v := 0) hx hb dX9_late_1 (by decide) ?_
  refine Mp_0 S hin hK hP hD hS f47 dX9_late_2 (fun H locs hP hD hS => ?_)
  obtain ⟨σ1, eσ1, hf⟩ := nm_some hf
  rw [← eσ1] at hP hD
  refine lv_aload_n hx hb dX9_late_5 rfl (lv_at hl 0 rfl) ?_
  refine Mg_7 S hin hK hP f179 dX9_late_6 ?_
  refine lv_if_ne (tgt := 15) hx hb dX9_late_9 (by decide) (fun c2 => ?_) (fun c2 => ?_)
  · have hf := (if_neg c2).symm.trans hf
    refine lv_iconst (v := 0) hx hb dX9_late_15 (by decide) ?_
    refine lv_istore_n (lv' := [(1, .int 0), (0, .ref (h 0))]) hx hb dX9_late_16 rfl hl (by decide) rfl (fun ls hl => ?_)
    refine lv_iconst (v := 0) hx hb dX9_late_17 (by decide) ?_
    refine lv_istore_n (lv' := [(2, .int 0), (1, .int 0), (0, .ref (h 0))]) hx hb dX9_late_18 rfl hl (by decide) rfl (fun ls hl => ?_)
    exact b19 fuelN _ _ _ _ _ _ hf (lv_sub hl [2, 1, 0] rfl) hP hD hS
  · have hf := (if_pos c2).symm.trans hf
    refine lv_ldc (v := (-1000002)) hx hb hown c210 dX9_late_12 ?_
    exact hre _ _ _ _ _ _ hf hP hD hS dX9_late_14
def FM_canBeSaved (σ : MS) (a1 : Int32) : Option Int32 :=
  Option.bind (FM_slackOf σ a1) fun (r1 : Int32) => Option.bind (FM_of σ a1 3) fun (r2 : Int32) => if r2 = 0 then (if r1 < 0 then (some 0) else (some 1)) else (some 0)
set_option maxHeartbeats 4000000 in
set_option maxRecDepth 100000 in
theorem kM_canBeSaved (l : Launch) (D : va_G) (h : Nat → Nat) (cI cZ : ClassId) (σ : MS) (a1 : Int32) (r : Int32) (hf : FM_canBeSaved σ a1 = some r) : KK l D [(cI, .int), (cZ, .boolean)] yX9_canBeSaved wsX9_canBeSaved 4 88 [.ref (h 0), .int a1] (mw h cI cZ σ) (some (.int r)) (mw h cI cZ σ) := by
  refine KK.ofZ (own := RX9) (cc := cX9_canBeSaved) (maxL := 3) (by decide) rfl rfl (Nat.le_of_ble_eq_true rfl) ?_
  intro p e s m args below meth c R Q A ls S hRf hRl hK hA hP hD hS hl hret
  obtain ⟨hx, hb, hml, hown, hts⟩ := id S
  have hin : ∀ w ∈ wsX90, w ∈ wsX9_canBeSaved := fun w hw => List.mem_cons_of_mem _ (List.mem_append_right _ hw)
  have hl : lv_has ls 3 [(0, .ref (h 0)), (1, .int a1)] := hl
  have hre : ∀ (x : Int32) (pc : Nat) (ls : Array Slot) (H : Heap) (locs : List Loc), (some x : Option Int32) = some r → va_P D vwCl (mw h cI cZ σ) H → va_D A (mw h cI cZ σ) → va_S A s.heap H locs → decode cX9_canBeSaved pc = .ok (.ireturn, 1) → narrow .boolean (.int x) = .int x → W p l e R s m args below meth c H locs 0 0 Q (F0 m pc ls [.int x]) := by intro x pc ls H locs he; cases he; exact hret pc ls H locs
  unfold FM_canBeSaved at hf
  refine lv_aload_n hx hb dX9_canBeSaved_0 rfl (lv_at hl 0 rfl) ?_
  refine lv_iload_n hx hb dX9_canBeSaved_1 rfl (lv_at hl 1 rfl) ?_
  obtain ⟨r1, hr1, hf⟩ := bi_some hf
  refine kc_v (ci := 8) (q0 := 0) (n := 1) S hRf hRl hK hA hP hD hS hl [.int a1] [] (kM_slackOf l D h cI cZ σ a1 r1 hr1) gX9_canBeSaved_X9_slackOf rfl (by decide +kernel) rfl ⟨by decide, by decide⟩ rfl rfl rfl rfl (Nat.le_of_ble_eq_true rfl) dX9_canBeSaved_2 (fun H locs hP hD hS => ?_)
  refine W.eq (g2 := F0 m 5 ls [.int r1]) rfl ?_
  refine lv_istore_n (lv' := [(2, .int r1), (0, .ref (h 0)), (1, .int a1)]) hx hb dX9_canBeSaved_5 rfl hl (by decide) rfl (fun ls hl => ?_)
  refine lv_aload_n hx hb dX9_canBeSaved_6 rfl (lv_at hl 1 rfl) ?_
  refine lv_iload_n hx hb dX9_canBeSaved_7 rfl (lv_at hl 2 rfl) ?_
  refine lv_iconst (v := 3) hx hb dX9_canBeSaved_8 (by decide) ?_
  obtain ⟨r2, hr2, hf⟩ := bi_some hf
  refine kc_v (ci := 8) (q0 := 0) (n := 2) S hRf hRl hK hA hP hD hS hl [.int a1, .int 3] [] (kM_of l D h cI cZ σ a1 3 r2 hr2) gX9_canBeSaved_X9_of rfl (by decide +kernel) rfl ⟨by decide, by decide⟩ rfl rfl rfl rfl (Nat.le_of_ble_eq_true rfl) dX9_canBeSaved_9 (fun H locs hP hD hS => ?_)
  refine W.eq (g2 := F0 m 12 ls [.int r2]) rfl ?_
  refine lv_if_ne (tgt := 23) hx hb dX9_canBeSaved_12 (by decide) (fun c3 => ?_) (fun c3 => ?_)
  · have hf := (if_neg c3).symm.trans hf
    refine lv_iconst (v := 0) hx hb dX9_canBeSaved_23 (by decide) ?_
    exact hre _ _ _ _ _ hf hP hD hS dX9_canBeSaved_24 rfl
  · have hf := (if_pos c3).symm.trans hf
    refine lv_iload_n hx hb dX9_canBeSaved_15 rfl (lv_at hl 0 rfl) ?_
    refine lv_if_lt (tgt := 23) hx hb dX9_canBeSaved_16 (by decide) (fun c4 => ?_) (fun c4 => ?_)
    · have hf := (if_pos c4).symm.trans hf
      refine lv_iconst (v := 0) hx hb dX9_canBeSaved_23 (by decide) ?_
      exact hre _ _ _ _ _ hf hP hD hS dX9_canBeSaved_24 rfl
    · have hf := (if_neg c4).symm.trans hf
      refine lv_iconst (v := 1) hx hb dX9_canBeSaved_19 (by decide) ?_
      refine lv_goto (tgt := 24) hx hb dX9_canBeSaved_20 (by decide) ?_
      exact hre _ _ _ _ _ hf hP hD hS dX9_canBeSaved_24 rfl
def FM_mustGo_69 (ag34 : MS → Int32 → Int32 → Int32 → Option (Int32 × MS)) (σ : MS) (l1 : Int32) (l3 : Int32) (s0 : Int32) (s1 : Int32) : Option (Int32 × MS) :=
  nm (s1 ||| s0) fun (x11 : Int32) => nm (l3 + 1) fun (x12 : Int32) => ag34 σ l1 x11 x12
def FM_mustGo_68 (ag34 : MS → Int32 → Int32 → Int32 → Option (Int32 × MS)) (σ : MS) (l1 : Int32) (l3 : Int32) (s0 : Int32) : Option (Int32 × MS) :=
  FM_mustGo_69 ag34 σ l1 l3 0 s0
def FM_mustGo_34  : Nat → MS → Int32 → Int32 → Int32 → Option (Int32 × MS)
  | 0, _, _, _, _ => none
  | n + 1, σ, l1, l2, l3 => gd (¬ ((3 : Int32) < 0 ∨ 147 ≤ Int32.toNatClampNeg 3)) (if (σ.2 5 (Int32.toNatClampNeg 3)) ≤ l3 then (some (l2, σ)) else (Option.bind (FM_canBeSaved σ l3) fun (r7 : Int32) => if r7 = 0 then (FM_mustGo_68 (FM_mustGo_34 n) σ l1 l3 l2) else (Option.bind (FM_slackOf σ l3) fun (r9 : Int32) => if l1 ≤ r9 then (FM_mustGo_68 (FM_mustGo_34 n) σ l1 l3 l2) else (FM_mustGo_69 (FM_mustGo_34 n) σ l1 l3 (1 <<< (l3 &&& 31)) l2))))
def FM_mustGo (σ : MS) (a1 : Int32) : Option (Int32 × MS) :=
  nm (setF σ 0 0) fun (σ1 : MS) => if (σ1.1 7) = 0 then (some ((-1000002), σ1)) else (Option.bind (FM_in (Int32.toInt64 a1) 1 400) fun (r3 : Int32) => if r3 = 0 then (some ((-1000001), σ1)) else (FM_mustGo_34 fuelN σ1 a1 0 0))
set_option maxHeartbeats 4000000 in
set_option maxRecDepth 100000 in
theorem kM_mustGo (l : Launch) (D : va_G) (h : Nat → Nat) (cI cZ : ClassId) (σ : MS) (a1 : Int32) (r : Int32) (σ' : MS) (hf : FM_mustGo σ a1 = some (r, σ')) : KK l D [(cI, .int), (cZ, .boolean)] yX9_mustGo wsX9_mustGo 5 110 [.ref (h 0), .int a1] (mw h cI cZ σ) (some (.int r)) (mw h cI cZ σ') := by
  refine KK.ofI (own := RX9) (cc := cX9_mustGo) (maxL := 4) (by decide) rfl rfl (Nat.le_of_ble_eq_true rfl) ?_
  intro p e s m args below meth c R Q A ls S hRf hRl hK hA hP hD hS hl hret
  obtain ⟨hx, hb, hml, hown, hts⟩ := id S
  have hin : ∀ w ∈ wsX90, w ∈ wsX9_mustGo := fun w hw => List.mem_cons_of_mem _ (List.mem_append_right _ hw)
  have f47 := hts (.fieldLink RX9 47 "PenniesAwayModel" "thrown" "I") (by decide +kernel)
  have f179 := hts (.fieldLink RX9 179 "PenniesAwayModel" "isThere" "Z") (by decide +kernel)
  have c248 := hts (.constantLong RX9 248 (400)) (by decide +kernel)
  have c67 := hts (.constant RX9 67 (-1000001)) (by decide +kernel)
  have c210 := hts (.constant RX9 210 (-1000002)) (by decide +kernel)
  have f19 := hts (.fieldLink RX9 19 "PenniesAwayModel" "realm" "[I") (by decide +kernel)
  have hl : lv_has ls 4 [(0, .ref (h 0)), (1, .int a1)] := hl
  have hre : ∀ (x : Int32) (σx : MS) (pc : Nat) (ls : Array Slot) (H : Heap) (locs : List Loc), (some (x, σx) : Option (Int32 × MS)) = some (r, σ') → va_P D vwCl (mw h cI cZ σx) H → va_D A (mw h cI cZ σx) → va_S A s.heap H locs → decode cX9_mustGo pc = .ok (.ireturn, 1) → W p l e R s m args below meth c H locs 0 0 Q (F0 m pc ls [.int x]) := by intro x σx pc ls H locs he; cases he; exact hret pc ls H locs
  have b69 : ∀ (ag34 : MS → Int32 → Int32 → Int32 → Option (Int32 × MS)) (hag34 : ∀ (σ : MS) (l1 : Int32) (l2 : Int32) (l3 : Int32) (ls : Array Slot) (H : Heap) (locs : List Loc), ag34 σ l1 l2 l3 = some (r, σ') → lv_has ls 4 [(0, .ref (h 0)), (1, .int l1), (2, .int l2), (3, .int l3)] → va_P D vwCl (mw h cI cZ σ) H → va_D A (mw h cI cZ σ) → va_S A s.heap H locs → W p l e R s m args below meth c H locs 0 0 Q (F0 m 34 ls [])), ∀ (σ : MS) (l1 : Int32) (l3 : Int32) (s0 : Int32) (s1 : Int32) (ls : Array Slot) (H : Heap) (locs : List Loc), FM_mustGo_69 ag34 σ l1 l3 s0 s1 = some (r, σ') → lv_has ls 4 [(0, .ref (h 0)), (1, .int l1), (3, .int l3)] → va_P D vwCl (mw h cI cZ σ) H → va_D A (mw h cI cZ σ) → va_S A s.heap H locs → W p l e R s m args below meth c H locs 0 0 Q (F0 m 69 ls [.int s0, .int s1]) := by
    intro ag34 hag34 σ l1 l3 s0 s1 ls H locs hf hl hP hD hS
    unfold FM_mustGo_69 at hf
    refine lv_ior hx hb dX9_mustGo_69 ?_
    refine lv_topi (fun x11 ex11 => ?_)
    have hf := nm_at ex11 hf
    refine lv_istore_n (lv' := [(2, .int x11), (0, .ref (h 0)), (1, .int l1), (3, .int l3)]) hx hb dX9_mustGo_70 rfl hl (by decide) rfl (fun ls hl => ?_)
    obtain ⟨x12, ex12, hf⟩ := nm_some hf
    refine lv_iinc (v := x12) (lv' := [(3, .int x12), (2, .int x11), (0, .ref (h 0)), (1, .int l1)]) hx hb dX9_mustGo_71 hl (k := 3) rfl (by rw [ex12]; rfl) (by decide) rfl (fun ls hl => ?_)
    refine lv_goto (tgt := 34) hx hb dX9_mustGo_74 (by decide) ?_
    exact hag34 _ _ _ _ _ _ _ hf (lv_sub hl [2, 3, 1, 0] rfl) hP hD hS
  have b68 : ∀ (ag34 : MS → Int32 → Int32 → Int32 → Option (Int32 × MS)) (hag34 : ∀ (σ : MS) (l1 : Int32) (l2 : Int32) (l3 : Int32) (ls : Array Slot) (H : Heap) (locs : List Loc), ag34 σ l1 l2 l3 = some (r, σ') → lv_has ls 4 [(0, .ref (h 0)), (1, .int l1), (2, .int l2), (3, .int l3)] → va_P D vwCl (mw h cI cZ σ) H → va_D A (mw h cI cZ σ) → va_S A s.heap H locs → W p l e R s m args below meth c H locs 0 0 Q (F0 m 34 ls [])), ∀ (σ : MS) (l1 : Int32) (l3 : Int32) (s0 : Int32) (ls : Array Slot) (H : Heap) (locs : List Loc), FM_mustGo_68 ag34 σ l1 l3 s0 = some (r, σ') → lv_has ls 4 [(0, .ref (h 0)), (1, .int l1), (3, .int l3)] → va_P D vwCl (mw h cI cZ σ) H → va_D A (mw h cI cZ σ) → va_S A s.heap H locs → W p l e R s m args below meth c H locs 0 0 Q (F0 m 68 ls [.int s0]) := by
    intro ag34 hag34 σ l1 l3 s0 ls H locs hf hl hP hD hS
    unfold FM_mustGo_68 at hf
    refine lv_iconst (v := 0) hx hb dX9_mustGo_68 (by decide) ?_
    exact b69 ag34 hag34 _ _ _ _ _ _ _ _ hf (lv_sub hl [0, 1, 2] rfl) hP hD hS
  have b34 : ∀ (n : Nat), ∀ (σ : MS) (l1 : Int32) (l2 : Int32) (l3 : Int32) (ls : Array Slot) (H : Heap) (locs : List Loc), FM_mustGo_34 n σ l1 l2 l3 = some (r, σ') → lv_has ls 4 [(0, .ref (h 0)), (1, .int l1), (2, .int l2), (3, .int l3)] → va_P D vwCl (mw h cI cZ σ) H → va_D A (mw h cI cZ σ) → va_S A s.heap H locs → W p l e R s m args below meth c H locs 0 0 Q (F0 m 34 ls []) := by
    intro n
    induction n with
    | zero => intro σ l1 l2 l3 ls H locs hf; exact absurd hf (by simp [FM_mustGo_34])
    | succ n ih =>
      intro σ l1 l2 l3 ls H locs hf hl hP hD hS
      rw [FM_mustGo_34] at hf
      refine lv_iload_n hx hb dX9_mustGo_34 rfl (lv_at hl 3 rfl) ?_
      refine lv_aload_n hx hb dX9_mustGo_35 rfl (lv_at hl 0 rfl) ?_
      refine Mg_5 S hin hK hP f19 dX9_mustGo_36 ?_
      refine lv_iconst (v := 3) hx hb dX9_mustGo_39 (by decide) ?_
      obtain ⟨g5, hf⟩ := gd_some hf
      refine Ml_5 S hK hP g5 dX9_mustGo_40 ?_
      refine lv_icmp_ge (tgt := 77) hx hb dX9_mustGo_41 (by decide) (fun c6 => ?_) (fun c6 => ?_)
      · have hf := (if_pos c6).symm.trans hf
        refine lv_iload_n hx hb dX9_mustGo_77 rfl (lv_at hl 2 rfl) ?_
        exact hre _ _ _ _ _ _ hf hP hD hS dX9_mustGo_78
      · have hf := (if_neg c6).symm.trans hf
        refine lv_iload_n hx hb dX9_mustGo_44 rfl (lv_at hl 2 rfl) ?_
        refine lv_aload_n hx hb dX9_mustGo_45 rfl (lv_at hl 0 rfl) ?_
        refine lv_iload_n hx hb dX9_mustGo_46 rfl (lv_at hl 3 rfl) ?_
        obtain ⟨r7, hr7, hf⟩ := bi_some hf
        refine kc_v (ci := 8) (q0 := 0) (n := 1) S hRf hRl hK hA hP hD hS hl [.int l3] [.int l2] (kM_canBeSaved l D h cI cZ σ l3 r7 hr7) gX9_mustGo_X9_canBeSaved rfl (by decide +kernel) rfl ⟨by decide, by decide⟩ rfl rfl rfl rfl (Nat.le_of_ble_eq_true rfl) dX9_mustGo_47 (fun H locs hP hD hS => ?_)
        refine W.eq (g2 := F0 m 50 ls [.int r7, .int l2]) rfl ?_
        refine lv_if_eq (tgt := 68) hx hb dX9_mustGo_50 (by decide) (fun c8 => ?_) (fun c8 => ?_)
        · have hf := (if_pos c8).symm.trans hf
          exact b68 (FM_mustGo_34 n) ih _ _ _ _ _ _ _ hf (lv_sub hl [0, 1, 3] rfl) hP hD hS
        · have hf := (if_neg c8).symm.trans hf
          refine lv_aload_n hx hb dX9_mustGo_53 rfl (lv_at hl 0 rfl) ?_
          refine lv_iload_n hx hb dX9_mustGo_54 rfl (lv_at hl 3 rfl) ?_
          obtain ⟨r9, hr9, hf⟩ := bi_some hf
          refine kc_v (ci := 8) (q0 := 0) (n := 1) S hRf hRl hK hA hP hD hS hl [.int l3] [.int l2] (kM_slackOf l D h cI cZ σ l3 r9 hr9) gX9_mustGo_X9_slackOf rfl (by decide +kernel) rfl ⟨by decide, by decide⟩ rfl rfl rfl rfl (Nat.le_of_ble_eq_true rfl) dX9_mustGo_55 (fun H locs hP hD hS => ?_)
          refine W.eq (g2 := F0 m 58 ls [.int r9, .int l2]) rfl ?_
          refine lv_iload_n hx hb dX9_mustGo_58 rfl (lv_at hl 1 rfl) ?_
          refine lv_icmp_ge (tgt := 68) hx hb dX9_mustGo_59 (by decide) (fun c10 => ?_) (fun c10 => ?_)
          · have hf := (if_pos c10).symm.trans hf
            exact b68 (FM_mustGo_34 n) ih _ _ _ _ _ _ _ hf (lv_sub hl [0, 1, 3] rfl) hP hD hS
          · have hf := (if_neg c10).symm.trans hf
            refine lv_iconst (v := 1) hx hb dX9_mustGo_62 (by decide) ?_
            refine lv_iload_n hx hb dX9_mustGo_63 rfl (lv_at hl 3 rfl) ?_
            refine lv_ishl hx hb dX9_mustGo_64 ?_
            refine lv_goto (tgt := 69) hx hb dX9_mustGo_65 (by decide) ?_
            exact b69 (FM_mustGo_34 n) ih _ _ _ _ _ _ _ _ hf (lv_sub hl [0, 1, 3] rfl) hP hD hS
  unfold FM_mustGo at hf
  refine lv_aload_n hx hb dX9_mustGo_0 rfl (lv_at hl 0 rfl) ?_
  refine lv_iconst (v := 0) hx hb dX9_mustGo_1 (by decide) ?_
  refine Mp_0 S hin hK hP hD hS f47 dX9_mustGo_2 (fun H locs hP hD hS => ?_)
  obtain ⟨σ1, eσ1, hf⟩ := nm_some hf
  rw [← eσ1] at hP hD
  refine lv_aload_n hx hb dX9_mustGo_5 rfl (lv_at hl 0 rfl) ?_
  refine Mg_7 S hin hK hP f179 dX9_mustGo_6 ?_
  refine lv_if_ne (tgt := 15) hx hb dX9_mustGo_9 (by decide) (fun c2 => ?_) (fun c2 => ?_)
  · have hf := (if_neg c2).symm.trans hf
    refine lv_iload_n hx hb dX9_mustGo_15 rfl (lv_at hl 1 rfl) ?_
    refine lv_i2l hx hb dX9_mustGo_16 rfl ?_
    refine lv_lconst (v := 1) hx hb dX9_mustGo_17 (by decide) ?_
    refine lv_ldc2 (v := 400) hx hb hown c248 dX9_mustGo_18 ?_
    obtain ⟨r3, hr3, hf⟩ := bi_some hf
    refine kc_s (n := 3) S hRf hRl hK hA hP hD hS hl [.long (Int32.toInt64 a1), .long 1, .long 400] [] (kM_in l D _ _ (Int32.toInt64 a1) 1 400 r3 hr3) gX9_mustGo_X9_in rfl (by decide +kernel) rfl ⟨by decide, by decide⟩ rfl (Nat.le_of_ble_eq_true rfl) dX9_mustGo_21 (fun H locs hP hD hS => ?_)
    refine W.eq (g2 := F0 m 24 ls [.int r3]) rfl ?_
    refine lv_if_ne (tgt := 30) hx hb dX9_mustGo_24 (by decide) (fun c4 => ?_) (fun c4 => ?_)
    · have hf := (if_neg c4).symm.trans hf
      refine lv_iconst (v := 0) hx hb dX9_mustGo_30 (by decide) ?_
      refine lv_istore_n (lv' := [(2, .int 0), (0, .ref (h 0)), (1, .int a1)]) hx hb dX9_mustGo_31 rfl hl (by decide) rfl (fun ls hl => ?_)
      refine lv_iconst (v := 0) hx hb dX9_mustGo_32 (by decide) ?_
      refine lv_istore_n (lv' := [(3, .int 0), (2, .int 0), (0, .ref (h 0)), (1, .int a1)]) hx hb dX9_mustGo_33 rfl hl (by decide) rfl (fun ls hl => ?_)
      exact b34 fuelN _ _ _ _ _ _ _ hf (lv_sub hl [2, 3, 1, 0] rfl) hP hD hS
    · have hf := (if_pos c4).symm.trans hf
      refine lv_ldc (v := (-1000001)) hx hb hown c67 dX9_mustGo_27 ?_
      exact hre _ _ _ _ _ _ hf hP hD hS dX9_mustGo_29
  · have hf := (if_pos c2).symm.trans hf
    refine lv_ldc (v := (-1000002)) hx hb hown c210 dX9_mustGo_12 ?_
    exact hre _ _ _ _ _ _ hf hP hD hS dX9_mustGo_14
def FM_save_140 (ag34 : MS → Int32 → Int32 → Int32 → Option (Int32 × MS)) (σ : MS) (l1 : Int32) (l3 : Int32) (s0 : Int32) (s1 : Int32) : Option (Int32 × MS) :=
  nm (s1 ||| s0) fun (x18 : Int32) => nm (l3 + 1) fun (x19 : Int32) => ag34 σ l1 x18 x19
def FM_save_116 (ag34 : MS → Int32 → Int32 → Int32 → Option (Int32 × MS)) (ag46 : MS → Int32 → Int32 → Int32 → Int32 → Int32 → Option (Int32 × MS)) (σ : MS) (l1 : Int32) (l2 : Int32) (l3 : Int32) (l5 : Int32) (s0 : Int32) : Option (Int32 × MS) :=
  nm (l5 + 1) fun (x17 : Int32) => ag46 σ l1 l2 l3 s0 x17
def FM_save_114 (ag34 : MS → Int32 → Int32 → Int32 → Option (Int32 × MS)) (ag46 : MS → Int32 → Int32 → Int32 → Int32 → Int32 → Option (Int32 × MS)) (σ : MS) (l1 : Int32) (l2 : Int32) (l3 : Int32) (l4 : Int32) (l5 : Int32) : Option (Int32 × MS) :=
  FM_save_116 ag34 ag46 σ l1 l2 l3 l5 l4
def FM_save_109 (ag34 : MS → Int32 → Int32 → Int32 → Option (Int32 × MS)) (ag46 : MS → Int32 → Int32 → Int32 → Int32 → Int32 → Option (Int32 × MS)) (σ : MS) (l1 : Int32) (l2 : Int32) (l3 : Int32) (l5 : Int32) : Option (Int32 × MS) :=
  FM_save_116 ag34 ag46 σ l1 l2 l3 l5 l5
def FM_save_80 (ag34 : MS → Int32 → Int32 → Int32 → Option (Int32 × MS)) (ag46 : MS → Int32 → Int32 → Int32 → Int32 → Int32 → Option (Int32 × MS)) (σ : MS) (l1 : Int32) (l2 : Int32) (l3 : Int32) (l4 : Int32) (l5 : Int32) (s0 : Int32) : Option (Int32 × MS) :=
  if s0 = 0 then (FM_save_114 ag34 ag46 σ l1 l2 l3 l4 l5) else (if l4 = (-1000000) then (FM_save_109 ag34 ag46 σ l1 l2 l3 l5) else (Option.bind (FM_slackOf σ l5) fun (r14 : Int32) => Option.bind (FM_slackOf σ l4) fun (r15 : Int32) => if r15 ≤ r14 then (FM_save_114 ag34 ag46 σ l1 l2 l3 l4 l5) else (FM_save_109 ag34 ag46 σ l1 l2 l3 l5)))
def FM_save_79 (ag34 : MS → Int32 → Int32 → Int32 → Option (Int32 × MS)) (ag46 : MS → Int32 → Int32 → Int32 → Int32 → Int32 → Option (Int32 × MS)) (σ : MS) (l1 : Int32) (l2 : Int32) (l3 : Int32) (l4 : Int32) (l5 : Int32) : Option (Int32 × MS) :=
  FM_save_80 ag34 ag46 σ l1 l2 l3 l4 l5 0
def FM_save_46 (ag34 : MS → Int32 → Int32 → Int32 → Option (Int32 × MS)) : Nat → MS → Int32 → Int32 → Int32 → Int32 → Int32 → Option (Int32 × MS)
  | 0, _, _, _, _, _, _ => none
  | n + 1, σ, l1, l2, l3, l4, l5 => gd (¬ ((3 : Int32) < 0 ∨ 147 ≤ Int32.toNatClampNeg 3)) (if (σ.2 5 (Int32.toNatClampNeg 3)) ≤ l5 then (if l4 = (-1000000) then (FM_save_140 ag34 σ l1 l3 0 l2) else (FM_save_140 ag34 σ l1 l3 (1 <<< (l4 &&& 31)) l2)) else (Option.bind (FM_canBeSaved σ l5) fun (r9 : Int32) => if r9 = 0 then (FM_save_79 ag34 (FM_save_46 ag34 n) σ l1 l2 l3 l4 l5) else (if ((l2 >>> (l5 &&& 31)) &&& 1) = 0 then (FM_save_80 ag34 (FM_save_46 ag34 n) σ l1 l2 l3 l4 l5 1) else (FM_save_79 ag34 (FM_save_46 ag34 n) σ l1 l2 l3 l4 l5))))
def FM_save_34  : Nat → MS → Int32 → Int32 → Int32 → Option (Int32 × MS)
  | 0, _, _, _, _ => none
  | n + 1, σ, l1, l2, l3 => if l1 ≤ l3 then (some (l2, σ)) else (FM_save_46 (FM_save_34 n) fuelN σ l1 l2 l3 (-1000000) 0)
def FM_save (σ : MS) (a1 : Int32) : Option (Int32 × MS) :=
  nm (setF σ 0 0) fun (σ1 : MS) => if (σ1.1 7) = 0 then (some ((-1000002), σ1)) else (Option.bind (FM_in (Int32.toInt64 a1) 0 12) fun (r3 : Int32) => if r3 = 0 then (some ((-1000001), σ1)) else (FM_save_34 fuelN σ1 a1 0 0))
set_option maxHeartbeats 4000000 in
set_option maxRecDepth 100000 in
theorem kM_save (l : Launch) (D : va_G) (h : Nat → Nat) (cI cZ : ClassId) (σ : MS) (a1 : Int32) (r : Int32) (σ' : MS) (hf : FM_save σ a1 = some (r, σ')) : KK l D [(cI, .int), (cZ, .boolean)] yX9_save wsX9_save 5 110 [.ref (h 0), .int a1] (mw h cI cZ σ) (some (.int r)) (mw h cI cZ σ') := by
  refine KK.ofI (own := RX9) (cc := cX9_save) (maxL := 7) (by decide) rfl rfl (Nat.le_of_ble_eq_true rfl) ?_
  intro p e s m args below meth c R Q A ls S hRf hRl hK hA hP hD hS hl hret
  obtain ⟨hx, hb, hml, hown, hts⟩ := id S
  have hin : ∀ w ∈ wsX90, w ∈ wsX9_save := fun w hw => List.mem_cons_of_mem _ (List.mem_append_right _ hw)
  have f47 := hts (.fieldLink RX9 47 "PenniesAwayModel" "thrown" "I") (by decide +kernel)
  have f179 := hts (.fieldLink RX9 179 "PenniesAwayModel" "isThere" "Z") (by decide +kernel)
  have c224 := hts (.constantLong RX9 224 (12)) (by decide +kernel)
  have c67 := hts (.constant RX9 67 (-1000001)) (by decide +kernel)
  have c210 := hts (.constant RX9 210 (-1000002)) (by decide +kernel)
  have c83 := hts (.constant RX9 83 (-1000000)) (by decide +kernel)
  have f19 := hts (.fieldLink RX9 19 "PenniesAwayModel" "realm" "[I") (by decide +kernel)
  have hl : lv_has ls 7 [(0, .ref (h 0)), (1, .int a1)] := hl
  have hre : ∀ (x : Int32) (σx : MS) (pc : Nat) (ls : Array Slot) (H : Heap) (locs : List Loc), (some (x, σx) : Option (Int32 × MS)) = some (r, σ') → va_P D vwCl (mw h cI cZ σx) H → va_D A (mw h cI cZ σx) → va_S A s.heap H locs → decode cX9_save pc = .ok (.ireturn, 1) → W p l e R s m args below meth c H locs 0 0 Q (F0 m pc ls [.int x]) := by intro x σx pc ls H locs he; cases he; exact hret pc ls H locs
  have b140 : ∀ (ag34 : MS → Int32 → Int32 → Int32 → Option (Int32 × MS)) (hag34 : ∀ (σ : MS) (l1 : Int32) (l2 : Int32) (l3 : Int32) (ls : Array Slot) (H : Heap) (locs : List Loc), ag34 σ l1 l2 l3 = some (r, σ') → lv_has ls 7 [(0, .ref (h 0)), (1, .int l1), (2, .int l2), (3, .int l3)] → va_P D vwCl (mw h cI cZ σ) H → va_D A (mw h cI cZ σ) → va_S A s.heap H locs → W p l e R s m args below meth c H locs 0 0 Q (F0 m 34 ls [])), ∀ (σ : MS) (l1 : Int32) (l3 : Int32) (s0 : Int32) (s1 : Int32) (ls : Array Slot) (H : Heap) (locs : List Loc), FM_save_140 ag34 σ l1 l3 s0 s1 = some (r, σ') → lv_has ls 7 [(0, .ref (h 0)), (1, .int l1), (3, .int l3)] → va_P D vwCl (mw h cI cZ σ) H → va_D A (mw h cI cZ σ) → va_S A s.heap H locs → W p l e R s m args below meth c H locs 0 0 Q (F0 m 140 ls [.int s0, .int s1]) := by
    intro ag34 hag34 σ l1 l3 s0 s1 ls H locs hf hl hP hD hS
    unfold FM_save_140 at hf
    refine lv_ior hx hb dX9_save_140 ?_
    refine lv_topi (fun x18 ex18 => ?_)
    have hf := nm_at ex18 hf
    refine lv_istore_n (lv' := [(2, .int x18), (0, .ref (h 0)), (1, .int l1), (3, .int l3)]) hx hb dX9_save_141 rfl hl (by decide) rfl (fun ls hl => ?_)
    obtain ⟨x19, ex19, hf⟩ := nm_some hf
    refine lv_iinc (v := x19) (lv' := [(3, .int x19), (2, .int x18), (0, .ref (h 0)), (1, .int l1)]) hx hb dX9_save_142 hl (k := 3) rfl (by rw [ex19]; rfl) (by decide) rfl (fun ls hl => ?_)
    refine lv_goto (tgt := 34) hx hb dX9_save_145 (by decide) ?_
    exact hag34 _ _ _ _ _ _ _ hf (lv_sub hl [2, 3, 1, 0] rfl) hP hD hS
  have b116 : ∀ (ag34 : MS → Int32 → Int32 → Int32 → Option (Int32 × MS)) (hag34 : ∀ (σ : MS) (l1 : Int32) (l2 : Int32) (l3 : Int32) (ls : Array Slot) (H : Heap) (locs : List Loc), ag34 σ l1 l2 l3 = some (r, σ') → lv_has ls 7 [(0, .ref (h 0)), (1, .int l1), (2, .int l2), (3, .int l3)] → va_P D vwCl (mw h cI cZ σ) H → va_D A (mw h cI cZ σ) → va_S A s.heap H locs → W p l e R s m args below meth c H locs 0 0 Q (F0 m 34 ls [])) (ag46 : MS → Int32 → Int32 → Int32 → Int32 → Int32 → Option (Int32 × MS)) (hag46 : ∀ (σ : MS) (l1 : Int32) (l2 : Int32) (l3 : Int32) (l4 : Int32) (l5 : Int32) (ls : Array Slot) (H : Heap) (locs : List Loc), ag46 σ l1 l2 l3 l4 l5 = some (r, σ') → lv_has ls 7 [(0, .ref (h 0)), (1, .int l1), (2, .int l2), (3, .int l3), (4, .int l4), (5, .int l5)] → va_P D vwCl (mw h cI cZ σ) H → va_D A (mw h cI cZ σ) → va_S A s.heap H locs → W p l e R s m args below meth c H locs 0 0 Q (F0 m 46 ls [])), ∀ (σ : MS) (l1 : Int32) (l2 : Int32) (l3 : Int32) (l5 : Int32) (s0 : Int32) (ls : Array Slot) (H : Heap) (locs : List Loc), FM_save_116 ag34 ag46 σ l1 l2 l3 l5 s0 = some (r, σ') → lv_has ls 7 [(0, .ref (h 0)), (1, .int l1), (2, .int l2), (3, .int l3), (5, .int l5)] → va_P D vwCl (mw h cI cZ σ) H → va_D A (mw h cI cZ σ) → va_S A s.heap H locs → W p l e R s m args below meth c H locs 0 0 Q (F0 m 116 ls [.int s0]) := by
    intro ag34 hag34 ag46 hag46 σ l1 l2 l3 l5 s0 ls H locs hf hl hP hD hS
    unfold FM_save_116 at hf
    refine lv_istore (lv' := [(4, .int s0), (0, .ref (h 0)), (1, .int l1), (2, .int l2), (3, .int l3), (5, .int l5)]) hx hb dX9_save_116 hl (by decide) rfl (fun ls hl => ?_)
    obtain ⟨x17, ex17, hf⟩ := nm_some hf
    refine lv_iinc (v := x17) (lv' := [(5, .int x17), (4, .int s0), (0, .ref (h 0)), (1, .int l1), (2, .int l2), (3, .int l3)]) hx hb dX9_save_118 hl (k := 5) rfl (by rw [ex17]; rfl) (by decide) rfl (fun ls hl => ?_)
    refine lv_goto (tgt := 46) hx hb dX9_save_121 (by decide) ?_
    exact hag46 _ _ _ _ _ _ _ _ _ hf (lv_sub hl [2, 3, 4, 5, 1, 0] rfl) hP hD hS
  have b114 : ∀ (ag34 : MS → Int32 → Int32 → Int32 → Option (Int32 × MS)) (hag34 : ∀ (σ : MS) (l1 : Int32) (l2 : Int32) (l3 : Int32) (ls : Array Slot) (H : Heap) (locs : List Loc), ag34 σ l1 l2 l3 = some (r, σ') → lv_has ls 7 [(0, .ref (h 0)), (1, .int l1), (2, .int l2), (3, .int l3)] → va_P D vwCl (mw h cI cZ σ) H → va_D A (mw h cI cZ σ) → va_S A s.heap H locs → W p l e R s m args below meth c H locs 0 0 Q (F0 m 34 ls [])) (ag46 : MS → Int32 → Int32 → Int32 → Int32 → Int32 → Option (Int32 × MS)) (hag46 : ∀ (σ : MS) (l1 : Int32) (l2 : Int32) (l3 : Int32) (l4 : Int32) (l5 : Int32) (ls : Array Slot) (H : Heap) (locs : List Loc), ag46 σ l1 l2 l3 l4 l5 = some (r, σ') → lv_has ls 7 [(0, .ref (h 0)), (1, .int l1), (2, .int l2), (3, .int l3), (4, .int l4), (5, .int l5)] → va_P D vwCl (mw h cI cZ σ) H → va_D A (mw h cI cZ σ) → va_S A s.heap H locs → W p l e R s m args below meth c H locs 0 0 Q (F0 m 46 ls [])), ∀ (σ : MS) (l1 : Int32) (l2 : Int32) (l3 : Int32) (l4 : Int32) (l5 : Int32) (ls : Array Slot) (H : Heap) (locs : List Loc), FM_save_114 ag34 ag46 σ l1 l2 l3 l4 l5 = some (r, σ') → lv_has ls 7 [(0, .ref (h 0)), (1, .int l1), (2, .int l2), (3, .int l3), (4, .int l4), (5, .int l5)] → va_P D vwCl (mw h cI cZ σ) H → va_D A (mw h cI cZ σ) → va_S A s.heap H locs → W p l e R s m args below meth c H locs 0 0 Q (F0 m 114 ls []) := by
    intro ag34 hag34 ag46 hag46 σ l1 l2 l3 l4 l5 ls H locs hf hl hP hD hS
    unfold FM_save_114 at hf
    refine lv_iload hx hb dX9_save_114 (lv_at hl 4 rfl) ?_
    exact b116 ag34 hag34 ag46 hag46 _ _ _ _ _ _ _ _ _ hf (lv_sub hl [0, 1, 2, 3, 5] rfl) hP hD hS
  have b109 : ∀ (ag34 : MS → Int32 → Int32 → Int32 → Option (Int32 × MS)) (hag34 : ∀ (σ : MS) (l1 : Int32) (l2 : Int32) (l3 : Int32) (ls : Array Slot) (H : Heap) (locs : List Loc), ag34 σ l1 l2 l3 = some (r, σ') → lv_has ls 7 [(0, .ref (h 0)), (1, .int l1), (2, .int l2), (3, .int l3)] → va_P D vwCl (mw h cI cZ σ) H → va_D A (mw h cI cZ σ) → va_S A s.heap H locs → W p l e R s m args below meth c H locs 0 0 Q (F0 m 34 ls [])) (ag46 : MS → Int32 → Int32 → Int32 → Int32 → Int32 → Option (Int32 × MS)) (hag46 : ∀ (σ : MS) (l1 : Int32) (l2 : Int32) (l3 : Int32) (l4 : Int32) (l5 : Int32) (ls : Array Slot) (H : Heap) (locs : List Loc), ag46 σ l1 l2 l3 l4 l5 = some (r, σ') → lv_has ls 7 [(0, .ref (h 0)), (1, .int l1), (2, .int l2), (3, .int l3), (4, .int l4), (5, .int l5)] → va_P D vwCl (mw h cI cZ σ) H → va_D A (mw h cI cZ σ) → va_S A s.heap H locs → W p l e R s m args below meth c H locs 0 0 Q (F0 m 46 ls [])), ∀ (σ : MS) (l1 : Int32) (l2 : Int32) (l3 : Int32) (l5 : Int32) (ls : Array Slot) (H : Heap) (locs : List Loc), FM_save_109 ag34 ag46 σ l1 l2 l3 l5 = some (r, σ') → lv_has ls 7 [(0, .ref (h 0)), (1, .int l1), (2, .int l2), (3, .int l3), (5, .int l5)] → va_P D vwCl (mw h cI cZ σ) H → va_D A (mw h cI cZ σ) → va_S A s.heap H locs → W p l e R s m args below meth c H locs 0 0 Q (F0 m 109 ls []) := by
    intro ag34 hag34 ag46 hag46 σ l1 l2 l3 l5 ls H locs hf hl hP hD hS
    unfold FM_save_109 at hf
    refine lv_iload hx hb dX9_save_109 (lv_at hl 4 rfl) ?_
    refine lv_goto (tgt := 116) hx hb dX9_save_111 (by decide) ?_
    exact b116 ag34 hag34 ag46 hag46 _ _ _ _ _ _ _ _ _ hf (lv_sub hl [0, 1, 2, 3, 4] rfl) hP hD hS
  have b80 : ∀ (ag34 : MS → Int32 → Int32 → Int32 → Option (Int32 × MS)) (hag34 : ∀ (σ : MS) (l1 : Int32) (l2 : Int32) (l3 : Int32) (ls : Array Slot) (H : Heap) (locs : List Loc), ag34 σ l1 l2 l3 = some (r, σ') → lv_has ls 7 [(0, .ref (h 0)), (1, .int l1), (2, .int l2), (3, .int l3)] → va_P D vwCl (mw h cI cZ σ) H → va_D A (mw h cI cZ σ) → va_S A s.heap H locs → W p l e R s m args below meth c H locs 0 0 Q (F0 m 34 ls [])) (ag46 : MS → Int32 → Int32 → Int32 → Int32 → Int32 → Option (Int32 × MS)) (hag46 : ∀ (σ : MS) (l1 : Int32) (l2 : Int32) (l3 : Int32) (l4 : Int32) (l5 : Int32) (ls : Array Slot) (H : Heap) (locs : List Loc), ag46 σ l1 l2 l3 l4 l5 = some (r, σ') → lv_has ls 7 [(0, .ref (h 0)), (1, .int l1), (2, .int l2), (3, .int l3), (4, .int l4), (5, .int l5)] → va_P D vwCl (mw h cI cZ σ) H → va_D A (mw h cI cZ σ) → va_S A s.heap H locs → W p l e R s m args below meth c H locs 0 0 Q (F0 m 46 ls [])), ∀ (σ : MS) (l1 : Int32) (l2 : Int32) (l3 : Int32) (l4 : Int32) (l5 : Int32) (s0 : Int32) (ls : Array Slot) (H : Heap) (locs : List Loc), FM_save_80 ag34 ag46 σ l1 l2 l3 l4 l5 s0 = some (r, σ') → lv_has ls 7 [(0, .ref (h 0)), (1, .int l1), (2, .int l2), (3, .int l3), (4, .int l4), (5, .int l5)] → va_P D vwCl (mw h cI cZ σ) H → va_D A (mw h cI cZ σ) → va_S A s.heap H locs → W p l e R s m args below meth c H locs 0 0 Q (F0 m 80 ls [.int s0]) := by
    intro ag34 hag34 ag46 hag46 σ l1 l2 l3 l4 l5 s0 ls H locs hf hl hP hD hS
    unfold FM_save_80 at hf
    refine lv_istore (lv' := [(6, .int s0), (0, .ref (h 0)), (1, .int l1), (2, .int l2), (3, .int l3), (4, .int l4), (5, .int l5)]) hx hb dX9_save_80 hl (by decide) rfl (fun ls hl => ?_)
    refine lv_iload hx hb dX9_save_82 (lv_at hl 0 rfl) ?_
    refine lv_if_eq (tgt := 114) hx hb dX9_save_84 (by decide) (fun c12 => ?_) (fun c12 => ?_)
    · have hf := (if_pos c12).symm.trans hf
      exact b114 ag34 hag34 ag46 hag46 _ _ _ _ _ _ _ _ _ hf (lv_sub hl [1, 2, 3, 4, 5, 6] rfl) hP hD hS
    · have hf := (if_neg c12).symm.trans hf
      refine lv_iload hx hb dX9_save_87 (lv_at hl 5 rfl) ?_
      refine lv_ldc (v := (-1000000)) hx hb hown c83 dX9_save_89 ?_
      refine lv_icmp_eq (tgt := 109) hx hb dX9_save_91 (by decide) (fun c13 => ?_) (fun c13 => ?_)
      · have hf := (if_pos c13).symm.trans hf
        exact b109 ag34 hag34 ag46 hag46 _ _ _ _ _ _ _ _ hf (lv_sub hl [1, 2, 3, 4, 6] rfl) hP hD hS
      · have hf := (if_neg c13).symm.trans hf
        refine lv_aload_n hx hb dX9_save_94 rfl (lv_at hl 1 rfl) ?_
        refine lv_iload hx hb dX9_save_95 (lv_at hl 6 rfl) ?_
        obtain ⟨r14, hr14, hf⟩ := bi_some hf
        refine kc_v (ci := 8) (q0 := 0) (n := 1) S hRf hRl hK hA hP hD hS hl [.int l5] [] (kM_slackOf l D h cI cZ σ l5 r14 hr14) gX9_save_X9_slackOf rfl (by decide +kernel) rfl ⟨by decide, by decide⟩ rfl rfl rfl rfl (Nat.le_of_ble_eq_true rfl) dX9_save_97 (fun H locs hP hD hS => ?_)
        refine W.eq (g2 := F0 m 100 ls [.int r14]) rfl ?_
        refine lv_aload_n hx hb dX9_save_100 rfl (lv_at hl 1 rfl) ?_
        refine lv_iload hx hb dX9_save_101 (lv_at hl 5 rfl) ?_
        obtain ⟨r15, hr15, hf⟩ := bi_some hf
        refine kc_v (ci := 8) (q0 := 0) (n := 1) S hRf hRl hK hA hP hD hS hl [.int l4] [.int r14] (kM_slackOf l D h cI cZ σ l4 r15 hr15) gX9_save_X9_slackOf rfl (by decide +kernel) rfl ⟨by decide, by decide⟩ rfl rfl rfl rfl (Nat.le_of_ble_eq_true rfl) dX9_save_103 (fun H locs hP hD hS => ?_)
        refine W.eq (g2 := F0 m 106 ls [.int r15, .int r14]) rfl ?_
        refine lv_icmp_ge (tgt := 114) hx hb dX9_save_106 (by decide) (fun c16 => ?_) (fun c16 => ?_)
        · have hf := (if_pos c16).symm.trans hf
          exact b114 ag34 hag34 ag46 hag46 _ _ _ _ _ _ _ _ _ hf (lv_sub hl [1, 2, 3, 4, 5, 6] rfl) hP hD hS
        · have hf := (if_neg c16).symm.trans hf
          exact b109 ag34 hag34 ag46 hag46 _ _ _ _ _ _ _ _ hf (lv_sub hl [1, 2, 3, 4, 6] rfl) hP hD hS
  have b79 : ∀ (ag34 : MS → Int32 → Int32 → Int32 → Option (Int32 × MS)) (hag34 : ∀ (σ : MS) (l1 : Int32) (l2 : Int32) (l3 : Int32) (ls : Array Slot) (H : Heap) (locs : List Loc), ag34 σ l1 l2 l3 = some (r, σ') → lv_has ls 7 [(0, .ref (h 0)), (1, .int l1), (2, .int l2), (3, .int l3)] → va_P D vwCl (mw h cI cZ σ) H → va_D A (mw h cI cZ σ) → va_S A s.heap H locs → W p l e R s m args below meth c H locs 0 0 Q (F0 m 34 ls [])) (ag46 : MS → Int32 → Int32 → Int32 → Int32 → Int32 → Option (Int32 × MS)) (hag46 : ∀ (σ : MS) (l1 : Int32) (l2 : Int32) (l3 : Int32) (l4 : Int32) (l5 : Int32) (ls : Array Slot) (H : Heap) (locs : List Loc), ag46 σ l1 l2 l3 l4 l5 = some (r, σ') → lv_has ls 7 [(0, .ref (h 0)), (1, .int l1), (2, .int l2), (3, .int l3), (4, .int l4), (5, .int l5)] → va_P D vwCl (mw h cI cZ σ) H → va_D A (mw h cI cZ σ) → va_S A s.heap H locs → W p l e R s m args below meth c H locs 0 0 Q (F0 m 46 ls [])), ∀ (σ : MS) (l1 : Int32) (l2 : Int32) (l3 : Int32) (l4 : Int32) (l5 : Int32) (ls : Array Slot) (H : Heap) (locs : List Loc), FM_save_79 ag34 ag46 σ l1 l2 l3 l4 l5 = some (r, σ') → lv_has ls 7 [(0, .ref (h 0)), (1, .int l1), (2, .int l2), (3, .int l3), (4, .int l4), (5, .int l5)] → va_P D vwCl (mw h cI cZ σ) H → va_D A (mw h cI cZ σ) → va_S A s.heap H locs → W p l e R s m args below meth c H locs 0 0 Q (F0 m 79 ls []) := by
    intro ag34 hag34 ag46 hag46 σ l1 l2 l3 l4 l5 ls H locs hf hl hP hD hS
    unfold FM_save_79 at hf
    refine lv_iconst (v := 0) hx hb dX9_save_79 (by decide) ?_
    exact b80 ag34 hag34 ag46 hag46 _ _ _ _ _ _ _ _ _ _ hf (lv_sub hl [0, 1, 2, 3, 4, 5] rfl) hP hD hS
  have b46 : ∀ (ag34 : MS → Int32 → Int32 → Int32 → Option (Int32 × MS)) (hag34 : ∀ (σ : MS) (l1 : Int32) (l2 : Int32) (l3 : Int32) (ls : Array Slot) (H : Heap) (locs : List Loc), ag34 σ l1 l2 l3 = some (r, σ') → lv_has ls 7 [(0, .ref (h 0)), (1, .int l1), (2, .int l2), (3, .int l3)] → va_P D vwCl (mw h cI cZ σ) H → va_D A (mw h cI cZ σ) → va_S A s.heap H locs → W p l e R s m args below meth c H locs 0 0 Q (F0 m 34 ls [])) (n : Nat), ∀ (σ : MS) (l1 : Int32) (l2 : Int32) (l3 : Int32) (l4 : Int32) (l5 : Int32) (ls : Array Slot) (H : Heap) (locs : List Loc), FM_save_46 ag34 n σ l1 l2 l3 l4 l5 = some (r, σ') → lv_has ls 7 [(0, .ref (h 0)), (1, .int l1), (2, .int l2), (3, .int l3), (4, .int l4), (5, .int l5)] → va_P D vwCl (mw h cI cZ σ) H → va_D A (mw h cI cZ σ) → va_S A s.heap H locs → W p l e R s m args below meth c H locs 0 0 Q (F0 m 46 ls []) := by
    intro ag34 hag34 n
    induction n with
    | zero => intro σ l1 l2 l3 l4 l5 ls H locs hf; exact absurd hf (by simp [FM_save_46])
    | succ n ih =>
      intro σ l1 l2 l3 l4 l5 ls H locs hf hl hP hD hS
      rw [FM_save_46] at hf
      refine lv_iload hx hb dX9_save_46 (lv_at hl 5 rfl) ?_
      refine lv_aload_n hx hb dX9_save_48 rfl (lv_at hl 0 rfl) ?_
      refine Mg_5 S hin hK hP f19 dX9_save_49 ?_
      refine lv_iconst (v := 3) hx hb dX9_save_52 (by decide) ?_
      obtain ⟨g6, hf⟩ := gd_some hf
      refine Ml_5 S hK hP g6 dX9_save_53 ?_
      refine lv_icmp_ge (tgt := 124) hx hb dX9_save_54 (by decide) (fun c7 => ?_) (fun c7 => ?_)
      · have hf := (if_pos c7).symm.trans hf
        refine lv_iload_n hx hb dX9_save_124 rfl (lv_at hl 2 rfl) ?_
        refine lv_iload hx hb dX9_save_125 (lv_at hl 4 rfl) ?_
        refine lv_ldc (v := (-1000000)) hx hb hown c83 dX9_save_127 ?_
        refine lv_icmp_ne (tgt := 136) hx hb dX9_save_129 (by decide) (fun c8 => ?_) (fun c8 => ?_)
        · have hf := (if_neg c8).symm.trans hf
          refine lv_iconst (v := 1) hx hb dX9_save_136 (by decide) ?_
          refine lv_iload hx hb dX9_save_137 (lv_at hl 4 rfl) ?_
          refine lv_ishl hx hb dX9_save_139 ?_
          exact b140 ag34 hag34 _ _ _ _ _ _ _ _ hf (lv_sub hl [0, 1, 3] rfl) hP hD hS
        · have hf := (if_pos c8).symm.trans hf
          refine lv_iconst (v := 0) hx hb dX9_save_132 (by decide) ?_
          refine lv_goto (tgt := 140) hx hb dX9_save_133 (by decide) ?_
          exact b140 ag34 hag34 _ _ _ _ _ _ _ _ hf (lv_sub hl [0, 1, 3] rfl) hP hD hS
      · have hf := (if_neg c7).symm.trans hf
        refine lv_aload_n hx hb dX9_save_57 rfl (lv_at hl 0 rfl) ?_
        refine lv_iload hx hb dX9_save_58 (lv_at hl 5 rfl) ?_
        obtain ⟨r9, hr9, hf⟩ := bi_some hf
        refine kc_v (ci := 8) (q0 := 0) (n := 1) S hRf hRl hK hA hP hD hS hl [.int l5] [] (kM_canBeSaved l D h cI cZ σ l5 r9 hr9) gX9_save_X9_canBeSaved rfl (by decide +kernel) rfl ⟨by decide, by decide⟩ rfl rfl rfl rfl (Nat.le_of_ble_eq_true rfl) dX9_save_60 (fun H locs hP hD hS => ?_)
        refine W.eq (g2 := F0 m 63 ls [.int r9]) rfl ?_
        refine lv_if_eq (tgt := 79) hx hb dX9_save_63 (by decide) (fun c10 => ?_) (fun c10 => ?_)
        · have hf := (if_pos c10).symm.trans hf
          exact b79 ag34 hag34 (FM_save_46 ag34 n) ih _ _ _ _ _ _ _ _ _ hf (lv_sub hl [0, 1, 2, 3, 4, 5] rfl) hP hD hS
        · have hf := (if_neg c10).symm.trans hf
          refine lv_iload_n hx hb dX9_save_66 rfl (lv_at hl 2 rfl) ?_
          refine lv_iload hx hb dX9_save_67 (lv_at hl 5 rfl) ?_
          refine lv_ishr hx hb dX9_save_69 ?_
          refine lv_iconst (v := 1) hx hb dX9_save_70 (by decide) ?_
          refine lv_iand hx hb dX9_save_71 ?_
          refine lv_if_ne (tgt := 79) hx hb dX9_save_72 (by decide) (fun c11 => ?_) (fun c11 => ?_)
          · have hf := (if_neg c11).symm.trans hf
            exact b79 ag34 hag34 (FM_save_46 ag34 n) ih _ _ _ _ _ _ _ _ _ hf (lv_sub hl [0, 1, 2, 3, 4, 5] rfl) hP hD hS
          · have hf := (if_pos c11).symm.trans hf
            refine lv_iconst (v := 1) hx hb dX9_save_75 (by decide) ?_
            refine lv_goto (tgt := 80) hx hb dX9_save_76 (by decide) ?_
            exact b80 ag34 hag34 (FM_save_46 ag34 n) ih _ _ _ _ _ _ _ _ _ _ hf (lv_sub hl [0, 1, 2, 3, 4, 5] rfl) hP hD hS
  have b34 : ∀ (n : Nat), ∀ (σ : MS) (l1 : Int32) (l2 : Int32) (l3 : Int32) (ls : Array Slot) (H : Heap) (locs : List Loc), FM_save_34 n σ l1 l2 l3 = some (r, σ') → lv_has ls 7 [(0, .ref (h 0)), (1, .int l1), (2, .int l2), (3, .int l3)] → va_P D vwCl (mw h cI cZ σ) H → va_D A (mw h cI cZ σ) → va_S A s.heap H locs → W p l e R s m args below meth c H locs 0 0 Q (F0 m 34 ls []) := by
    intro n
    induction n with
    | zero => intro σ l1 l2 l3 ls H locs hf; exact absurd hf (by simp [FM_save_34])
    | succ n ih =>
      intro σ l1 l2 l3 ls H locs hf hl hP hD hS
      rw [FM_save_34] at hf
      refine lv_iload_n hx hb dX9_save_34 rfl (lv_at hl 3 rfl) ?_
      refine lv_iload_n hx hb dX9_save_35 rfl (lv_at hl 1 rfl) ?_
      refine lv_icmp_ge (tgt := 148) hx hb dX9_save_36 (by decide) (fun c5 => ?_) (fun c5 => ?_)
      · have hf := (if_pos c5).symm.trans hf
        refine lv_iload_n hx hb dX9_save_148 rfl (lv_at hl 2 rfl) ?_
        exact hre _ _ _ _ _ _ hf hP hD hS dX9_save_149
      · have hf := (if_neg c5).symm.trans hf
        refine lv_ldc (v := (-1000000)) hx hb hown c83 dX9_save_39 ?_
        refine lv_istore (lv' := [(4, .int (-1000000)), (0, .ref (h 0)), (1, .int l1), (2, .int l2), (3, .int l3)]) hx hb dX9_save_41 hl (by decide) rfl (fun ls hl => ?_)
        refine lv_iconst (v := 0) hx hb dX9_save_43 (by decide) ?_
        refine lv_istore (lv' := [(5, .int 0), (4, .int (-1000000)), (0, .ref (h 0)), (1, .int l1), (2, .int l2), (3, .int l3)]) hx hb dX9_save_44 hl (by decide) rfl (fun ls hl => ?_)
        exact b46 (FM_save_34 n) ih fuelN _ _ _ _ _ _ _ _ _ hf (lv_sub hl [2, 3, 4, 5, 1, 0] rfl) hP hD hS
  unfold FM_save at hf
  refine lv_aload_n hx hb dX9_save_0 rfl (lv_at hl 0 rfl) ?_
  refine lv_iconst (v := 0) hx hb dX9_save_1 (by decide) ?_
  refine Mp_0 S hin hK hP hD hS f47 dX9_save_2 (fun H locs hP hD hS => ?_)
  obtain ⟨σ1, eσ1, hf⟩ := nm_some hf
  rw [← eσ1] at hP hD
  refine lv_aload_n hx hb dX9_save_5 rfl (lv_at hl 0 rfl) ?_
  refine Mg_7 S hin hK hP f179 dX9_save_6 ?_
  refine lv_if_ne (tgt := 15) hx hb dX9_save_9 (by decide) (fun c2 => ?_) (fun c2 => ?_)
  · have hf := (if_neg c2).symm.trans hf
    refine lv_iload_n hx hb dX9_save_15 rfl (lv_at hl 1 rfl) ?_
    refine lv_i2l hx hb dX9_save_16 rfl ?_
    refine lv_lconst (v := 0) hx hb dX9_save_17 (by decide) ?_
    refine lv_ldc2 (v := 12) hx hb hown c224 dX9_save_18 ?_
    obtain ⟨r3, hr3, hf⟩ := bi_some hf
    refine kc_s (n := 3) S hRf hRl hK hA hP hD hS hl [.long (Int32.toInt64 a1), .long 0, .long 12] [] (kM_in l D _ _ (Int32.toInt64 a1) 0 12 r3 hr3) gX9_save_X9_in rfl (by decide +kernel) rfl ⟨by decide, by decide⟩ rfl (Nat.le_of_ble_eq_true rfl) dX9_save_21 (fun H locs hP hD hS => ?_)
    refine W.eq (g2 := F0 m 24 ls [.int r3]) rfl ?_
    refine lv_if_ne (tgt := 30) hx hb dX9_save_24 (by decide) (fun c4 => ?_) (fun c4 => ?_)
    · have hf := (if_neg c4).symm.trans hf
      refine lv_iconst (v := 0) hx hb dX9_save_30 (by decide) ?_
      refine lv_istore_n (lv' := [(2, .int 0), (0, .ref (h 0)), (1, .int a1)]) hx hb dX9_save_31 rfl hl (by decide) rfl (fun ls hl => ?_)
      refine lv_iconst (v := 0) hx hb dX9_save_32 (by decide) ?_
      refine lv_istore_n (lv' := [(3, .int 0), (2, .int 0), (0, .ref (h 0)), (1, .int a1)]) hx hb dX9_save_33 rfl hl (by decide) rfl (fun ls hl => ?_)
      exact b34 fuelN _ _ _ _ _ _ _ hf (lv_sub hl [2, 3, 1, 0] rfl) hP hD hS
    · have hf := (if_pos c4).symm.trans hf
      refine lv_ldc (v := (-1000001)) hx hb hown c67 dX9_save_27 ?_
      exact hre _ _ _ _ _ _ hf hP hD hS dX9_save_29
  · have hf := (if_pos c2).symm.trans hf
    refine lv_ldc (v := (-1000002)) hx hb hown c210 dX9_save_12 ?_
    exact hre _ _ _ _ _ _ hf hP hD hS dX9_save_14
def FM_daysOf_7  : Nat → MS → Int32 → Int32 → Int32 → Int32 → Option Int32
  | 0, _, _, _, _, _ => none
  | n + 1, σ, l1, l2, l3, l4 => if l1 ≤ l4 then (Option.bind (FM_farOf σ l2 0) fun (r2 : Int32) => nm (l3 + r2) fun (x3 : Int32) => if 10000 ≤ x3 then (some 10000) else (some x3)) else (gd (¬ ((l4 : Int32) < 0 ∨ 6 ≤ Int32.toNatClampNeg l4)) (gd (¬ (((69 + (σ.2 20 (Int32.toNatClampNeg l4))) : Int32) < 0 ∨ 147 ≤ Int32.toNatClampNeg (69 + (σ.2 20 (Int32.toNatClampNeg l4))))) (Option.bind (FM_farOf σ l2 (σ.2 5 (Int32.toNatClampNeg (69 + (σ.2 20 (Int32.toNatClampNeg l4)))))) fun (r7 : Int32) => nm (l3 + r7) fun (x8 : Int32) => gd (¬ ((l4 : Int32) < 0 ∨ 6 ≤ Int32.toNatClampNeg l4)) (gd (¬ (((69 + (σ.2 20 (Int32.toNatClampNeg l4))) : Int32) < 0 ∨ 147 ≤ Int32.toNatClampNeg (69 + (σ.2 20 (Int32.toNatClampNeg l4))))) (nm (σ.2 5 (Int32.toNatClampNeg (69 + (σ.2 20 (Int32.toNatClampNeg l4))))) fun (x11 : Int32) => nm (l4 + 1) fun (x12 : Int32) => (FM_daysOf_7 n) σ l1 x11 x8 x12)))))
def FM_daysOf (σ : MS) (a1 : Int32) : Option Int32 :=
  FM_daysOf_7 fuelN σ a1 0 0 0
set_option maxHeartbeats 4000000 in
set_option maxRecDepth 100000 in
theorem kM_daysOf (l : Launch) (D : va_G) (h : Nat → Nat) (cI cZ : ClassId) (σ : MS) (a1 : Int32) (r : Int32) (hf : FM_daysOf σ a1 = some r) : KK l D [(cI, .int), (cZ, .boolean)] yX9_daysOf wsX9_daysOf 1 22 [.ref (h 0), .int a1] (mw h cI cZ σ) (some (.int r)) (mw h cI cZ σ) := by
  refine KK.ofI (own := RX9) (cc := cX9_daysOf) (maxL := 5) (by decide) rfl rfl (Nat.le_of_ble_eq_true rfl) ?_
  intro p e s m args below meth c R Q A ls S hRf hRl hK hA hP hD hS hl hret
  obtain ⟨hx, hb, hml, hown, hts⟩ := id S
  have hin : ∀ w ∈ wsX90, w ∈ wsX9_daysOf := fun w hw => List.mem_cons_of_mem _ (List.mem_append_right _ hw)
  have f19 := hts (.fieldLink RX9 19 "PenniesAwayModel" "realm" "[I") (by decide +kernel)
  have f31 := hts (.fieldLink RX9 31 "PenniesAwayModel" "tried" "[I") (by decide +kernel)
  have hl : lv_has ls 5 [(0, .ref (h 0)), (1, .int a1)] := hl
  have hre : ∀ (x : Int32) (pc : Nat) (ls : Array Slot) (H : Heap) (locs : List Loc), (some x : Option Int32) = some r → va_P D vwCl (mw h cI cZ σ) H → va_D A (mw h cI cZ σ) → va_S A s.heap H locs → decode cX9_daysOf pc = .ok (.ireturn, 1) → W p l e R s m args below meth c H locs 0 0 Q (F0 m pc ls [.int x]) := by intro x pc ls H locs he; cases he; exact hret pc ls H locs
  have b7 : ∀ (n : Nat), ∀ (l1 : Int32) (l2 : Int32) (l3 : Int32) (l4 : Int32) (ls : Array Slot) (H : Heap) (locs : List Loc), FM_daysOf_7 n σ l1 l2 l3 l4 = some r → lv_has ls 5 [(0, .ref (h 0)), (1, .int l1), (2, .int l2), (3, .int l3), (4, .int l4)] → va_P D vwCl (mw h cI cZ σ) H → va_D A (mw h cI cZ σ) → va_S A s.heap H locs → W p l e R s m args below meth c H locs 0 0 Q (F0 m 7 ls []) := by
    intro n
    induction n with
    | zero => intro l1 l2 l3 l4 ls H locs hf; exact absurd hf (by simp [FM_daysOf_7])
    | succ n ih =>
      intro l1 l2 l3 l4 ls H locs hf hl hP hD hS
      rw [FM_daysOf_7] at hf
      refine lv_iload hx hb dX9_daysOf_7 (lv_at hl 4 rfl) ?_
      refine lv_iload_n hx hb dX9_daysOf_9 rfl (lv_at hl 1 rfl) ?_
      refine lv_icmp_ge (tgt := 58) hx hb dX9_daysOf_10 (by decide) (fun c1 => ?_) (fun c1 => ?_)
      · have hf := (if_pos c1).symm.trans hf
        refine lv_iload_n hx hb dX9_daysOf_58 rfl (lv_at hl 3 rfl) ?_
        refine lv_aload_n hx hb dX9_daysOf_59 rfl (lv_at hl 0 rfl) ?_
        refine lv_iload_n hx hb dX9_daysOf_60 rfl (lv_at hl 2 rfl) ?_
        refine lv_iconst (v := 0) hx hb dX9_daysOf_61 (by decide) ?_
        obtain ⟨r2, hr2, hf⟩ := bi_some hf
        refine kc_v (ci := 8) (q0 := 0) (n := 2) S hRf hRl hK hA hP hD hS hl [.int l2, .int 0] [.int l3] (kM_farOf l D h cI cZ σ l2 0 r2 hr2) gX9_daysOf_X9_farOf rfl (by decide +kernel) rfl ⟨by decide, by decide⟩ rfl rfl rfl rfl (Nat.le_of_ble_eq_true rfl) dX9_daysOf_62 (fun H locs hP hD hS => ?_)
        refine W.eq (g2 := F0 m 65 ls [.int r2, .int l3]) rfl ?_
        refine lv_iadd hx hb dX9_daysOf_65 ?_
        refine lv_topi (fun x3 ex3 => ?_)
        have hf := nm_at ex3 hf
        refine lv_istore_n (lv' := [(3, .int x3), (0, .ref (h 0)), (1, .int l1), (2, .int l2), (4, .int l4)]) hx hb dX9_daysOf_66 rfl hl (by decide) rfl (fun ls hl => ?_)
        refine lv_iload_n hx hb dX9_daysOf_67 rfl (lv_at hl 0 rfl) ?_
        refine lv_sipush (v := 10000) hx hb dX9_daysOf_68 (by decide) ?_
        refine lv_icmp_ge (tgt := 78) hx hb dX9_daysOf_71 (by decide) (fun c4 => ?_) (fun c4 => ?_)
        · have hf := (if_pos c4).symm.trans hf
          refine lv_sipush (v := 10000) hx hb dX9_daysOf_78 (by decide) ?_
          exact hre _ _ _ _ _ hf hP hD hS dX9_daysOf_81
        · have hf := (if_neg c4).symm.trans hf
          refine lv_iload_n hx hb dX9_daysOf_74 rfl (lv_at hl 0 rfl) ?_
          refine lv_goto (tgt := 81) hx hb dX9_daysOf_75 (by decide) ?_
          exact hre _ _ _ _ _ hf hP hD hS dX9_daysOf_81
      · have hf := (if_neg c1).symm.trans hf
        refine lv_iload_n hx hb dX9_daysOf_13 rfl (lv_at hl 3 rfl) ?_
        refine lv_aload_n hx hb dX9_daysOf_14 rfl (lv_at hl 0 rfl) ?_
        refine lv_iload_n hx hb dX9_daysOf_15 rfl (lv_at hl 2 rfl) ?_
        refine lv_aload_n hx hb dX9_daysOf_16 rfl (lv_at hl 0 rfl) ?_
        refine Mg_5 S hin hK hP f19 dX9_daysOf_17 ?_
        refine lv_bipush (v := 69) hx hb dX9_daysOf_20 (by decide) ?_
        refine lv_aload_n hx hb dX9_daysOf_22 rfl (lv_at hl 0 rfl) ?_
        refine Mg_20 S hin hK hP f31 dX9_daysOf_23 ?_
        refine lv_iload hx hb dX9_daysOf_26 (lv_at hl 4 rfl) ?_
        obtain ⟨g5, hf⟩ := gd_some hf
        refine Ml_20 S hK hP g5 dX9_daysOf_28 ?_
        refine lv_iadd hx hb dX9_daysOf_29 ?_
        obtain ⟨g6, hf⟩ := gd_some hf
        refine Ml_5 S hK hP g6 dX9_daysOf_30 ?_
        obtain ⟨r7, hr7, hf⟩ := bi_some hf
        refine kc_v (ci := 8) (q0 := 0) (n := 2) S hRf hRl hK hA hP hD hS hl [.int l2, .int (σ.2 5 (Int32.toNatClampNeg (69 + (σ.2 20 (Int32.toNatClampNeg l4)))))] [.int l3] (kM_farOf l D h cI cZ σ l2 (σ.2 5 (Int32.toNatClampNeg (69 + (σ.2 20 (Int32.toNatClampNeg l4))))) r7 hr7) gX9_daysOf_X9_farOf rfl (by decide +kernel) rfl ⟨by decide, by decide⟩ rfl rfl rfl rfl (Nat.le_of_ble_eq_true rfl) dX9_daysOf_31 (fun H locs hP hD hS => ?_)
        refine W.eq (g2 := F0 m 34 ls [.int r7, .int l3]) rfl ?_
        refine lv_iadd hx hb dX9_daysOf_34 ?_
        refine lv_topi (fun x8 ex8 => ?_)
        have hf := nm_at ex8 hf
        refine lv_istore_n (lv' := [(3, .int x8), (0, .ref (h 0)), (1, .int l1), (2, .int l2), (4, .int l4)]) hx hb dX9_daysOf_35 rfl hl (by decide) rfl (fun ls hl => ?_)
        refine lv_aload_n hx hb dX9_daysOf_36 rfl (lv_at hl 1 rfl) ?_
        refine Mg_5 S hin hK hP f19 dX9_daysOf_37 ?_
        refine lv_bipush (v := 69) hx hb dX9_daysOf_40 (by decide) ?_
        refine lv_aload_n hx hb dX9_daysOf_42 rfl (lv_at hl 1 rfl) ?_
        refine Mg_20 S hin hK hP f31 dX9_daysOf_43 ?_
        refine lv_iload hx hb dX9_daysOf_46 (lv_at hl 4 rfl) ?_
        obtain ⟨g9, hf⟩ := gd_some hf
        refine Ml_20 S hK hP g9 dX9_daysOf_48 ?_
        refine lv_iadd hx hb dX9_daysOf_49 ?_
        obtain ⟨g10, hf⟩ := gd_some hf
        refine Ml_5 S hK hP g10 dX9_daysOf_50 ?_
        refine lv_topi (fun x11 ex11 => ?_)
        have hf := nm_at ex11 hf
        refine lv_istore_n (lv' := [(2, .int x11), (3, .int x8), (0, .ref (h 0)), (1, .int l1), (4, .int l4)]) hx hb dX9_daysOf_51 rfl hl (by decide) rfl (fun ls hl => ?_)
        obtain ⟨x12, ex12, hf⟩ := nm_some hf
        refine lv_iinc (v := x12) (lv' := [(4, .int x12), (2, .int x11), (3, .int x8), (0, .ref (h 0)), (1, .int l1)]) hx hb dX9_daysOf_52 hl (k := 4) rfl (by rw [ex12]; rfl) (by decide) rfl (fun ls hl => ?_)
        refine lv_goto (tgt := 7) hx hb dX9_daysOf_55 (by decide) ?_
        exact ih _ _ _ _ _ _ _ hf (lv_sub hl [3, 4, 1, 2, 0] rfl) hP hD hS
  unfold FM_daysOf at hf
  refine lv_iconst (v := 0) hx hb dX9_daysOf_0 (by decide) ?_
  refine lv_istore_n (lv' := [(2, .int 0), (0, .ref (h 0)), (1, .int a1)]) hx hb dX9_daysOf_1 rfl hl (by decide) rfl (fun ls hl => ?_)
  refine lv_iconst (v := 0) hx hb dX9_daysOf_2 (by decide) ?_
  refine lv_istore_n (lv' := [(3, .int 0), (2, .int 0), (0, .ref (h 0)), (1, .int a1)]) hx hb dX9_daysOf_3 rfl hl (by decide) rfl (fun ls hl => ?_)
  refine lv_iconst (v := 0) hx hb dX9_daysOf_4 (by decide) ?_
  refine lv_istore (lv' := [(4, .int 0), (3, .int 0), (2, .int 0), (0, .ref (h 0)), (1, .int a1)]) hx hb dX9_daysOf_5 hl (by decide) rfl (fun ls hl => ?_)
  exact b7 fuelN _ _ _ _ _ _ _ hf (lv_sub hl [3, 4, 2, 1, 0] rfl) hP hD hS
def FM_nextOrder_100  : Nat → MS → Int32 → Int32 → Option (Int32 × MS)
  | 0, _, _, _ => none
  | n + 1, σ, l5, l6 => if l5 ≤ l6 then (some (1, σ)) else (gd (¬ ((l6 : Int32) < 0 ∨ 6 ≤ Int32.toNatClampNeg l6)) (nm (σ.2 20 (Int32.toNatClampNeg l6)) fun (x24 : Int32) => gd (¬ ((l5 : Int32) < 0 ∨ 6 ≤ Int32.toNatClampNeg l5)) (gd (¬ ((l6 : Int32) < 0 ∨ 6 ≤ Int32.toNatClampNeg l6)) (nm (setA σ 20 (Int32.toNatClampNeg l6) (σ.2 20 (Int32.toNatClampNeg l5))) fun (σ27 : MS) => gd (¬ ((l5 : Int32) < 0 ∨ 6 ≤ Int32.toNatClampNeg l5)) (nm (setA σ27 20 (Int32.toNatClampNeg l5) x24) fun (σ29 : MS) => nm (l5 + (-1)) fun (x30 : Int32) => nm (l6 + 1) fun (x31 : Int32) => (FM_nextOrder_100 n) σ29 x30 x31)))))
def FM_nextOrder_41  : Nat → MS → Int32 → Int32 → Int32 → Option (Int32 × MS)
  | 0, _, _, _, _ => none
  | n + 1, σ, l1, l2, l3 => gd (¬ ((l3 : Int32) < 0 ∨ 6 ≤ Int32.toNatClampNeg l3)) (gd (¬ ((l2 : Int32) < 0 ∨ 6 ≤ Int32.toNatClampNeg l2)) (if (σ.2 20 (Int32.toNatClampNeg l2)) ≤ (σ.2 20 (Int32.toNatClampNeg l3)) then (gd (¬ ((l2 : Int32) < 0 ∨ 6 ≤ Int32.toNatClampNeg l2)) (nm (σ.2 20 (Int32.toNatClampNeg l2)) fun (x13 : Int32) => gd (¬ ((l3 : Int32) < 0 ∨ 6 ≤ Int32.toNatClampNeg l3)) (gd (¬ ((l2 : Int32) < 0 ∨ 6 ≤ Int32.toNatClampNeg l2)) (nm (setA σ 20 (Int32.toNatClampNeg l2) (σ.2 20 (Int32.toNatClampNeg l3))) fun (σ16 : MS) => gd (¬ ((l3 : Int32) < 0 ∨ 6 ≤ Int32.toNatClampNeg l3)) (nm (setA σ16 20 (Int32.toNatClampNeg l3) x13) fun (σ18 : MS) => nm (l1 - 1) fun (x19 : Int32) => nm (l2 + 1) fun (x20 : Int32) => FM_nextOrder_100 fuelN σ18 x19 x20))))) else (nm (l3 + (-1)) fun (x21 : Int32) => (FM_nextOrder_41 n) σ l1 l2 x21)))
def FM_nextOrder_31 (σ : MS) (l1 : Int32) (l2 : Int32) : Option (Int32 × MS) :=
  if 0 ≤ l2 then (nm (l1 - 1) fun (x8 : Int32) => FM_nextOrder_41 fuelN σ l1 l2 x8) else (some (0, σ))
def FM_nextOrder_4  : Nat → MS → Int32 → Int32 → Option (Int32 × MS)
  | 0, _, _, _ => none
  | n + 1, σ, l1, l2 => if l2 < 0 then (FM_nextOrder_31 σ l1 l2) else (gd (¬ ((l2 : Int32) < 0 ∨ 6 ≤ Int32.toNatClampNeg l2)) (gd (¬ (((l2 + 1) : Int32) < 0 ∨ 6 ≤ Int32.toNatClampNeg (l2 + 1))) (if (σ.2 20 (Int32.toNatClampNeg l2)) ≤ (σ.2 20 (Int32.toNatClampNeg (l2 + 1))) then (FM_nextOrder_31 σ l1 l2) else (nm (l2 + (-1)) fun (x6 : Int32) => (FM_nextOrder_4 n) σ l1 x6))))
def FM_nextOrder (σ : MS) (a1 : Int32) : Option (Int32 × MS) :=
  nm (a1 - 2) fun (x1 : Int32) => FM_nextOrder_4 fuelN σ a1 x1
set_option maxHeartbeats 4000000 in
set_option maxRecDepth 100000 in
theorem kM_nextOrder (l : Launch) (D : va_G) (h : Nat → Nat) (cI cZ : ClassId) (σ : MS) (a1 : Int32) (r : Int32) (σ' : MS) (hf : FM_nextOrder σ a1 = some (r, σ')) : KK l D [(cI, .int), (cZ, .boolean)] yX9_nextOrder wsX9_nextOrder 0 0 [.ref (h 0), .int a1] (mw h cI cZ σ) (some (.int r)) (mw h cI cZ σ') := by
  refine KK.ofZ (own := RX9) (cc := cX9_nextOrder) (maxL := 7) (by decide) rfl rfl (Nat.le_of_ble_eq_true rfl) ?_
  intro p e s m args below meth c R Q A ls S hRf hRl hK hA hP hD hS hl hret
  obtain ⟨hx, hb, hml, hown, hts⟩ := id S
  have hin : ∀ w ∈ wsX90, w ∈ wsX9_nextOrder := fun w hw => List.mem_cons_of_mem _ (List.mem_append_right _ hw)
  have f31 := hts (.fieldLink RX9 31 "PenniesAwayModel" "tried" "[I") (by decide +kernel)
  have hl : lv_has ls 7 [(0, .ref (h 0)), (1, .int a1)] := hl
  have hre : ∀ (x : Int32) (σx : MS) (pc : Nat) (ls : Array Slot) (H : Heap) (locs : List Loc), (some (x, σx) : Option (Int32 × MS)) = some (r, σ') → va_P D vwCl (mw h cI cZ σx) H → va_D A (mw h cI cZ σx) → va_S A s.heap H locs → decode cX9_nextOrder pc = .ok (.ireturn, 1) → narrow .boolean (.int x) = .int x → W p l e R s m args below meth c H locs 0 0 Q (F0 m pc ls [.int x]) := by intro x σx pc ls H locs he; cases he; exact hret pc ls H locs
  have b100 : ∀ (n : Nat), ∀ (σ : MS) (l5 : Int32) (l6 : Int32) (ls : Array Slot) (H : Heap) (locs : List Loc), FM_nextOrder_100 n σ l5 l6 = some (r, σ') → lv_has ls 7 [(0, .ref (h 0)), (5, .int l5), (6, .int l6)] → va_P D vwCl (mw h cI cZ σ) H → va_D A (mw h cI cZ σ) → va_S A s.heap H locs → W p l e R s m args below meth c H locs 0 0 Q (F0 m 100 ls []) := by
    intro n
    induction n with
    | zero => intro σ l5 l6 ls H locs hf; exact absurd hf (by simp [FM_nextOrder_100])
    | succ n ih =>
      intro σ l5 l6 ls H locs hf hl hP hD hS
      rw [FM_nextOrder_100] at hf
      refine lv_iload hx hb dX9_nextOrder_100 (lv_at hl 2 rfl) ?_
      refine lv_iload hx hb dX9_nextOrder_102 (lv_at hl 1 rfl) ?_
      refine lv_icmp_ge (tgt := 148) hx hb dX9_nextOrder_104 (by decide) (fun c22 => ?_) (fun c22 => ?_)
      · have hf := (if_pos c22).symm.trans hf
        refine lv_iconst (v := 1) hx hb dX9_nextOrder_148 (by decide) ?_
        exact hre _ _ _ _ _ _ hf hP hD hS dX9_nextOrder_149 rfl
      · have hf := (if_neg c22).symm.trans hf
        refine lv_aload_n hx hb dX9_nextOrder_107 rfl (lv_at hl 0 rfl) ?_
        refine Mg_20 S hin hK hP f31 dX9_nextOrder_108 ?_
        refine lv_iload hx hb dX9_nextOrder_111 (lv_at hl 2 rfl) ?_
        obtain ⟨g23, hf⟩ := gd_some hf
        refine Ml_20 S hK hP g23 dX9_nextOrder_113 ?_
        refine lv_topi (fun x24 ex24 => ?_)
        have hf := nm_at ex24 hf
        refine lv_istore (lv' := [(4, .int x24), (0, .ref (h 0)), (5, .int l5), (6, .int l6)]) hx hb dX9_nextOrder_114 hl (by decide) rfl (fun ls hl => ?_)
        refine lv_aload_n hx hb dX9_nextOrder_116 rfl (lv_at hl 1 rfl) ?_
        refine Mg_20 S hin hK hP f31 dX9_nextOrder_117 ?_
        refine lv_iload hx hb dX9_nextOrder_120 (lv_at hl 3 rfl) ?_
        refine lv_aload_n hx hb dX9_nextOrder_122 rfl (lv_at hl 1 rfl) ?_
        refine Mg_20 S hin hK hP f31 dX9_nextOrder_123 ?_
        refine lv_iload hx hb dX9_nextOrder_126 (lv_at hl 2 rfl) ?_
        obtain ⟨g25, hf⟩ := gd_some hf
        refine Ml_20 S hK hP g25 dX9_nextOrder_128 ?_
        obtain ⟨g26, hf⟩ := gd_some hf
        refine Ms_20 S hK hP hD hS g26 dX9_nextOrder_129 (fun H locs hP hD hS => ?_)
        obtain ⟨σ27, eσ27, hf⟩ := nm_some hf
        rw [← eσ27] at hP hD
        refine lv_aload_n hx hb dX9_nextOrder_130 rfl (lv_at hl 1 rfl) ?_
        refine Mg_20 S hin hK hP f31 dX9_nextOrder_131 ?_
        refine lv_iload hx hb dX9_nextOrder_134 (lv_at hl 2 rfl) ?_
        refine lv_iload hx hb dX9_nextOrder_136 (lv_at hl 0 rfl) ?_
        obtain ⟨g28, hf⟩ := gd_some hf
        refine Ms_20 S hK hP hD hS g28 dX9_nextOrder_138 (fun H locs hP hD hS => ?_)
        obtain ⟨σ29, eσ29, hf⟩ := nm_some hf
        rw [← eσ29] at hP hD
        obtain ⟨x30, ex30, hf⟩ := nm_some hf
        refine lv_iinc (v := x30) (lv' := [(5, .int x30), (4, .int x24), (0, .ref (h 0)), (6, .int l6)]) hx hb dX9_nextOrder_139 hl (k := 2) rfl (by rw [ex30]; rfl) (by decide) rfl (fun ls hl => ?_)
        obtain ⟨x31, ex31, hf⟩ := nm_some hf
        refine lv_iinc (v := x31) (lv' := [(6, .int x31), (5, .int x30), (4, .int x24), (0, .ref (h 0))]) hx hb dX9_nextOrder_142 hl (k := 3) rfl (by rw [ex31]; rfl) (by decide) rfl (fun ls hl => ?_)
        refine lv_goto (tgt := 100) hx hb dX9_nextOrder_145 (by decide) ?_
        exact ih _ _ _ _ _ _ hf (lv_sub hl [3, 1, 0] rfl) hP hD hS
  have b41 : ∀ (n : Nat), ∀ (σ : MS) (l1 : Int32) (l2 : Int32) (l3 : Int32) (ls : Array Slot) (H : Heap) (locs : List Loc), FM_nextOrder_41 n σ l1 l2 l3 = some (r, σ') → lv_has ls 7 [(0, .ref (h 0)), (1, .int l1), (2, .int l2), (3, .int l3)] → va_P D vwCl (mw h cI cZ σ) H → va_D A (mw h cI cZ σ) → va_S A s.heap H locs → W p l e R s m args below meth c H locs 0 0 Q (F0 m 41 ls []) := by
    intro n
    induction n with
    | zero => intro σ l1 l2 l3 ls H locs hf; exact absurd hf (by simp [FM_nextOrder_41])
    | succ n ih =>
      intro σ l1 l2 l3 ls H locs hf hl hP hD hS
      rw [FM_nextOrder_41] at hf
      refine lv_aload_n hx hb dX9_nextOrder_41 rfl (lv_at hl 0 rfl) ?_
      refine Mg_20 S hin hK hP f31 dX9_nextOrder_42 ?_
      refine lv_iload_n hx hb dX9_nextOrder_45 rfl (lv_at hl 3 rfl) ?_
      obtain ⟨g9, hf⟩ := gd_some hf
      refine Ml_20 S hK hP g9 dX9_nextOrder_46 ?_
      refine lv_aload_n hx hb dX9_nextOrder_47 rfl (lv_at hl 0 rfl) ?_
      refine Mg_20 S hin hK hP f31 dX9_nextOrder_48 ?_
      refine lv_iload_n hx hb dX9_nextOrder_51 rfl (lv_at hl 2 rfl) ?_
      obtain ⟨g10, hf⟩ := gd_some hf
      refine Ml_20 S hK hP g10 dX9_nextOrder_52 ?_
      refine lv_icmp_ge (tgt := 62) hx hb dX9_nextOrder_53 (by decide) (fun c11 => ?_) (fun c11 => ?_)
      · have hf := (if_pos c11).symm.trans hf
        refine lv_aload_n hx hb dX9_nextOrder_62 rfl (lv_at hl 0 rfl) ?_
        refine Mg_20 S hin hK hP f31 dX9_nextOrder_63 ?_
        refine lv_iload_n hx hb dX9_nextOrder_66 rfl (lv_at hl 2 rfl) ?_
        obtain ⟨g12, hf⟩ := gd_some hf
        refine Ml_20 S hK hP g12 dX9_nextOrder_67 ?_
        refine lv_topi (fun x13 ex13 => ?_)
        have hf := nm_at ex13 hf
        refine lv_istore (lv' := [(4, .int x13), (0, .ref (h 0)), (1, .int l1), (2, .int l2), (3, .int l3)]) hx hb dX9_nextOrder_68 hl (by decide) rfl (fun ls hl => ?_)
        refine lv_aload_n hx hb dX9_nextOrder_70 rfl (lv_at hl 1 rfl) ?_
        refine Mg_20 S hin hK hP f31 dX9_nextOrder_71 ?_
        refine lv_iload_n hx hb dX9_nextOrder_74 rfl (lv_at hl 3 rfl) ?_
        refine lv_aload_n hx hb dX9_nextOrder_75 rfl (lv_at hl 1 rfl) ?_
        refine Mg_20 S hin hK hP f31 dX9_nextOrder_76 ?_
        refine lv_iload_n hx hb dX9_nextOrder_79 rfl (lv_at hl 4 rfl) ?_
        obtain ⟨g14, hf⟩ := gd_some hf
        refine Ml_20 S hK hP g14 dX9_nextOrder_80 ?_
        obtain ⟨g15, hf⟩ := gd_some hf
        refine Ms_20 S hK hP hD hS g15 dX9_nextOrder_81 (fun H locs hP hD hS => ?_)
        obtain ⟨σ16, eσ16, hf⟩ := nm_some hf
        rw [← eσ16] at hP hD
        refine lv_aload_n hx hb dX9_nextOrder_82 rfl (lv_at hl 1 rfl) ?_
        refine Mg_20 S hin hK hP f31 dX9_nextOrder_83 ?_
        refine lv_iload_n hx hb dX9_nextOrder_86 rfl (lv_at hl 4 rfl) ?_
        refine lv_iload hx hb dX9_nextOrder_87 (lv_at hl 0 rfl) ?_
        obtain ⟨g17, hf⟩ := gd_some hf
        refine Ms_20 S hK hP hD hS g17 dX9_nextOrder_89 (fun H locs hP hD hS => ?_)
        obtain ⟨σ18, eσ18, hf⟩ := nm_some hf
        rw [← eσ18] at hP hD
        refine lv_iload_n hx hb dX9_nextOrder_90 rfl (lv_at hl 2 rfl) ?_
        refine lv_iconst (v := 1) hx hb dX9_nextOrder_91 (by decide) ?_
        refine lv_isub hx hb dX9_nextOrder_92 ?_
        refine lv_topi (fun x19 ex19 => ?_)
        have hf := nm_at ex19 hf
        refine lv_istore (lv' := [(5, .int x19), (4, .int x13), (0, .ref (h 0)), (1, .int l1), (2, .int l2), (3, .int l3)]) hx hb dX9_nextOrder_93 hl (by decide) rfl (fun ls hl => ?_)
        refine lv_iload_n hx hb dX9_nextOrder_95 rfl (lv_at hl 4 rfl) ?_
        refine lv_iconst (v := 1) hx hb dX9_nextOrder_96 (by decide) ?_
        refine lv_iadd hx hb dX9_nextOrder_97 ?_
        refine lv_topi (fun x20 ex20 => ?_)
        have hf := nm_at ex20 hf
        refine lv_istore (lv' := [(6, .int x20), (5, .int x19), (4, .int x13), (0, .ref (h 0)), (1, .int l1), (2, .int l2), (3, .int l3)]) hx hb dX9_nextOrder_98 hl (by decide) rfl (fun ls hl => ?_)
        exact b100 fuelN _ _ _ _ _ _ hf (lv_sub hl [3, 1, 0] rfl) hP hD hS
      · have hf := (if_neg c11).symm.trans hf
        obtain ⟨x21, ex21, hf⟩ := nm_some hf
        refine lv_iinc (v := x21) (lv' := [(3, .int x21), (0, .ref (h 0)), (1, .int l1), (2, .int l2)]) hx hb dX9_nextOrder_56 hl (k := 3) rfl (by rw [ex21]; rfl) (by decide) rfl (fun ls hl => ?_)
        refine lv_goto (tgt := 41) hx hb dX9_nextOrder_59 (by decide) ?_
        exact ih _ _ _ _ _ _ _ hf (lv_sub hl [1, 2, 3, 0] rfl) hP hD hS
  have b31 : ∀ (σ : MS) (l1 : Int32) (l2 : Int32) (ls : Array Slot) (H : Heap) (locs : List Loc), FM_nextOrder_31 σ l1 l2 = some (r, σ') → lv_has ls 7 [(0, .ref (h 0)), (1, .int l1), (2, .int l2)] → va_P D vwCl (mw h cI cZ σ) H → va_D A (mw h cI cZ σ) → va_S A s.heap H locs → W p l e R s m args below meth c H locs 0 0 Q (F0 m 31 ls []) := by
    intro σ l1 l2 ls H locs hf hl hP hD hS
    unfold FM_nextOrder_31 at hf
    refine lv_iload_n hx hb dX9_nextOrder_31 rfl (lv_at hl 2 rfl) ?_
    refine lv_if_ge (tgt := 37) hx hb dX9_nextOrder_32 (by decide) (fun c7 => ?_) (fun c7 => ?_)
    · have hf := (if_pos c7).symm.trans hf
      refine lv_iload_n hx hb dX9_nextOrder_37 rfl (lv_at hl 1 rfl) ?_
      refine lv_iconst (v := 1) hx hb dX9_nextOrder_38 (by decide) ?_
      refine lv_isub hx hb dX9_nextOrder_39 ?_
      refine lv_topi (fun x8 ex8 => ?_)
      have hf := nm_at ex8 hf
      refine lv_istore_n (lv' := [(3, .int x8), (0, .ref (h 0)), (1, .int l1), (2, .int l2)]) hx hb dX9_nextOrder_40 rfl hl (by decide) rfl (fun ls hl => ?_)
      exact b41 fuelN _ _ _ _ _ _ _ hf (lv_sub hl [1, 2, 3, 0] rfl) hP hD hS
    · have hf := (if_neg c7).symm.trans hf
      refine lv_iconst (v := 0) hx hb dX9_nextOrder_35 (by decide) ?_
      exact hre _ _ _ _ _ _ hf hP hD hS dX9_nextOrder_36 rfl
  have b4 : ∀ (n : Nat), ∀ (σ : MS) (l1 : Int32) (l2 : Int32) (ls : Array Slot) (H : Heap) (locs : List Loc), FM_nextOrder_4 n σ l1 l2 = some (r, σ') → lv_has ls 7 [(0, .ref (h 0)), (1, .int l1), (2, .int l2)] → va_P D vwCl (mw h cI cZ σ) H → va_D A (mw h cI cZ σ) → va_S A s.heap H locs → W p l e R s m args below meth c H locs 0 0 Q (F0 m 4 ls []) := by
    intro n
    induction n with
    | zero => intro σ l1 l2 ls H locs hf; exact absurd hf (by simp [FM_nextOrder_4])
    | succ n ih =>
      intro σ l1 l2 ls H locs hf hl hP hD hS
      rw [FM_nextOrder_4] at hf
      refine lv_iload_n hx hb dX9_nextOrder_4 rfl (lv_at hl 2 rfl) ?_
      refine lv_if_lt (tgt := 31) hx hb dX9_nextOrder_5 (by decide) (fun c2 => ?_) (fun c2 => ?_)
      · have hf := (if_pos c2).symm.trans hf
        exact b31 _ _ _ _ _ _ hf (lv_sub hl [0, 1, 2] rfl) hP hD hS
      · have hf := (if_neg c2).symm.trans hf
        refine lv_aload_n hx hb dX9_nextOrder_8 rfl (lv_at hl 0 rfl) ?_
        refine Mg_20 S hin hK hP f31 dX9_nextOrder_9 ?_
        refine lv_iload_n hx hb dX9_nextOrder_12 rfl (lv_at hl 2 rfl) ?_
        obtain ⟨g3, hf⟩ := gd_some hf
        refine Ml_20 S hK hP g3 dX9_nextOrder_13 ?_
        refine lv_aload_n hx hb dX9_nextOrder_14 rfl (lv_at hl 0 rfl) ?_
        refine Mg_20 S hin hK hP f31 dX9_nextOrder_15 ?_
        refine lv_iload_n hx hb dX9_nextOrder_18 rfl (lv_at hl 2 rfl) ?_
        refine lv_iconst (v := 1) hx hb dX9_nextOrder_19 (by decide) ?_
        refine lv_iadd hx hb dX9_nextOrder_20 ?_
        obtain ⟨g4, hf⟩ := gd_some hf
        refine Ml_20 S hK hP g4 dX9_nextOrder_21 ?_
        refine lv_icmp_le (tgt := 31) hx hb dX9_nextOrder_22 (by decide) (fun c5 => ?_) (fun c5 => ?_)
        · have hf := (if_pos c5).symm.trans hf
          exact b31 _ _ _ _ _ _ hf (lv_sub hl [0, 1, 2] rfl) hP hD hS
        · have hf := (if_neg c5).symm.trans hf
          obtain ⟨x6, ex6, hf⟩ := nm_some hf
          refine lv_iinc (v := x6) (lv' := [(2, .int x6), (0, .ref (h 0)), (1, .int l1)]) hx hb dX9_nextOrder_25 hl (k := 2) rfl (by rw [ex6]; rfl) (by decide) rfl (fun ls hl => ?_)
          refine lv_goto (tgt := 4) hx hb dX9_nextOrder_28 (by decide) ?_
          exact ih _ _ _ _ _ _ hf (lv_sub hl [1, 2, 0] rfl) hP hD hS
  unfold FM_nextOrder at hf
  refine lv_iload_n hx hb dX9_nextOrder_0 rfl (lv_at hl 1 rfl) ?_
  refine lv_iconst (v := 2) hx hb dX9_nextOrder_1 (by decide) ?_
  refine lv_isub hx hb dX9_nextOrder_2 ?_
  refine lv_topi (fun x1 ex1 => ?_)
  have hf := nm_at ex1 hf
  refine lv_istore_n (lv' := [(2, .int x1), (0, .ref (h 0)), (1, .int a1)]) hx hb dX9_nextOrder_3 rfl hl (by decide) rfl (fun ls hl => ?_)
  exact b4 fuelN _ _ _ _ _ _ hf (lv_sub hl [1, 2, 0] rfl) hP hD hS
def FM_layTour_92 (ag42 : MS → Int32 → Int32 → Int32 → Option (Int32 × MS)) (σ : MS) (l2 : Int32) (l3 : Int32) : Option (Int32 × MS) :=
  bd2 (FM_nextOrder σ l2) fun (r15 : Int32) (σ16 : MS) => ag42 σ16 l2 l3 r15
def FM_layTour_66 (ag42 : MS → Int32 → Int32 → Int32 → Option (Int32 × MS)) : Nat → MS → Int32 → Int32 → Int32 → Option (Int32 × MS)
  | 0, _, _, _, _ => none
  | n + 1, σ, l2, l3, l6 => if l2 ≤ l6 then (FM_layTour_92 ag42 σ l2 l3) else (gd (¬ ((l6 : Int32) < 0 ∨ 6 ≤ Int32.toNatClampNeg l6)) (gd (¬ ((l6 : Int32) < 0 ∨ 6 ≤ Int32.toNatClampNeg l6)) (nm (setA σ 21 (Int32.toNatClampNeg l6) (σ.2 20 (Int32.toNatClampNeg l6))) fun (σ13 : MS) => nm (l6 + 1) fun (x14 : Int32) => (FM_layTour_66 ag42 n) σ13 l2 l3 x14)))
def FM_layTour_42  : Nat → MS → Int32 → Int32 → Int32 → Option (Int32 × MS)
  | 0, _, _, _, _ => none
  | n + 1, σ, l2, l3, l4 => if l4 = 0 then (some (l3, σ)) else (Option.bind (FM_daysOf σ l2) fun (r8 : Int32) => if l3 ≤ r8 then (FM_layTour_92 (FM_layTour_42 n) σ l2 l3) else (FM_layTour_66 (FM_layTour_42 n) fuelN σ l2 r8 0))
def FM_layTour_29 (ag4 : MS → Int32 → Int32 → Int32 → Option (Int32 × MS)) (σ : MS) (l1 : Int32) (l2 : Int32) (l3 : Int32) : Option (Int32 × MS) :=
  nm (l3 + 1) fun (x6 : Int32) => ag4 σ l1 l2 x6
def FM_layTour_4  : Nat → MS → Int32 → Int32 → Int32 → Option (Int32 × MS)
  | 0, _, _, _, _ => none
  | n + 1, σ, l1, l2, l3 => if 6 ≤ l3 then (FM_layTour_42 fuelN σ l2 10000 1) else (if ((l1 >>> (l3 &&& 31)) &&& 1) = 1 then (gd (¬ ((l2 : Int32) < 0 ∨ 6 ≤ Int32.toNatClampNeg l2)) (nm (setA σ 20 (Int32.toNatClampNeg l2) l3) fun (σ4 : MS) => nm (l2 + 1) fun (x5 : Int32) => FM_layTour_29 (FM_layTour_4 n) σ4 l1 x5 l3)) else (FM_layTour_29 (FM_layTour_4 n) σ l1 l2 l3))
def FM_layTour (σ : MS) (a1 : Int32) : Option (Int32 × MS) :=
  FM_layTour_4 fuelN σ a1 0 0
set_option maxHeartbeats 4000000 in
set_option maxRecDepth 100000 in
theorem kM_layTour (l : Launch) (D : va_G) (h : Nat → Nat) (cI cZ : ClassId) (σ : MS) (a1 : Int32) (r : Int32) (σ' : MS) (hf : FM_layTour σ a1 = some (r, σ')) : KK l D [(cI, .int), (cZ, .boolean)] yX9_layTour wsX9_layTour 2 46 [.ref (h 0), .int a1] (mw h cI cZ σ) (some (.int r)) (mw h cI cZ σ') := by
  refine KK.ofI (own := RX9) (cc := cX9_layTour) (maxL := 7) (by decide) rfl rfl (Nat.le_of_ble_eq_true rfl) ?_
  intro p e s m args below meth c R Q A ls S hRf hRl hK hA hP hD hS hl hret
  obtain ⟨hx, hb, hml, hown, hts⟩ := id S
  have hin : ∀ w ∈ wsX90, w ∈ wsX9_layTour := fun w hw => List.mem_cons_of_mem _ (List.mem_append_right _ hw)
  have f31 := hts (.fieldLink RX9 31 "PenniesAwayModel" "tried" "[I") (by decide +kernel)
  have f34 := hts (.fieldLink RX9 34 "PenniesAwayModel" "best" "[I") (by decide +kernel)
  have hl : lv_has ls 7 [(0, .ref (h 0)), (1, .int a1)] := hl
  have hre : ∀ (x : Int32) (σx : MS) (pc : Nat) (ls : Array Slot) (H : Heap) (locs : List Loc), (some (x, σx) : Option (Int32 × MS)) = some (r, σ') → va_P D vwCl (mw h cI cZ σx) H → va_D A (mw h cI cZ σx) → va_S A s.heap H locs → decode cX9_layTour pc = .ok (.ireturn, 1) → W p l e R s m args below meth c H locs 0 0 Q (F0 m pc ls [.int x]) := by intro x σx pc ls H locs he; cases he; exact hret pc ls H locs
  have b92 : ∀ (ag42 : MS → Int32 → Int32 → Int32 → Option (Int32 × MS)) (hag42 : ∀ (σ : MS) (l2 : Int32) (l3 : Int32) (l4 : Int32) (ls : Array Slot) (H : Heap) (locs : List Loc), ag42 σ l2 l3 l4 = some (r, σ') → lv_has ls 7 [(0, .ref (h 0)), (2, .int l2), (3, .int l3), (4, .int l4)] → va_P D vwCl (mw h cI cZ σ) H → va_D A (mw h cI cZ σ) → va_S A s.heap H locs → W p l e R s m args below meth c H locs 0 0 Q (F0 m 42 ls [])), ∀ (σ : MS) (l2 : Int32) (l3 : Int32) (ls : Array Slot) (H : Heap) (locs : List Loc), FM_layTour_92 ag42 σ l2 l3 = some (r, σ') → lv_has ls 7 [(0, .ref (h 0)), (2, .int l2), (3, .int l3)] → va_P D vwCl (mw h cI cZ σ) H → va_D A (mw h cI cZ σ) → va_S A s.heap H locs → W p l e R s m args below meth c H locs 0 0 Q (F0 m 92 ls []) := by
    intro ag42 hag42 σ l2 l3 ls H locs hf hl hP hD hS
    unfold FM_layTour_92 at hf
    refine lv_aload_n hx hb dX9_layTour_92 rfl (lv_at hl 0 rfl) ?_
    refine lv_iload_n hx hb dX9_layTour_93 rfl (lv_at hl 1 rfl) ?_
    obtain ⟨r15, σ16, hr15, hf⟩ := bd2_some hf
    refine kc_v (ci := 8) (q0 := 0) (n := 1) S hRf hRl hK hA hP hD hS hl [.int l2] [] (kM_nextOrder l D h cI cZ σ l2 r15 σ16 hr15) gX9_layTour_X9_nextOrder rfl (by decide +kernel) rfl ⟨by decide, by decide⟩ rfl rfl rfl rfl (Nat.le_of_ble_eq_true rfl) dX9_layTour_94 (fun H locs hP hD hS => ?_)
    refine W.eq (g2 := F0 m 97 ls [.int r15]) rfl ?_
    refine lv_istore (lv' := [(4, .int r15), (0, .ref (h 0)), (2, .int l2), (3, .int l3)]) hx hb dX9_layTour_97 hl (by decide) rfl (fun ls hl => ?_)
    refine lv_goto (tgt := 42) hx hb dX9_layTour_99 (by decide) ?_
    exact hag42 _ _ _ _ _ _ _ hf (lv_sub hl [1, 2, 3, 0] rfl) hP hD hS
  have b66 : ∀ (ag42 : MS → Int32 → Int32 → Int32 → Option (Int32 × MS)) (hag42 : ∀ (σ : MS) (l2 : Int32) (l3 : Int32) (l4 : Int32) (ls : Array Slot) (H : Heap) (locs : List Loc), ag42 σ l2 l3 l4 = some (r, σ') → lv_has ls 7 [(0, .ref (h 0)), (2, .int l2), (3, .int l3), (4, .int l4)] → va_P D vwCl (mw h cI cZ σ) H → va_D A (mw h cI cZ σ) → va_S A s.heap H locs → W p l e R s m args below meth c H locs 0 0 Q (F0 m 42 ls [])) (n : Nat), ∀ (σ : MS) (l2 : Int32) (l3 : Int32) (l6 : Int32) (ls : Array Slot) (H : Heap) (locs : List Loc), FM_layTour_66 ag42 n σ l2 l3 l6 = some (r, σ') → lv_has ls 7 [(0, .ref (h 0)), (2, .int l2), (3, .int l3), (6, .int l6)] → va_P D vwCl (mw h cI cZ σ) H → va_D A (mw h cI cZ σ) → va_S A s.heap H locs → W p l e R s m args below meth c H locs 0 0 Q (F0 m 66 ls []) := by
    intro ag42 hag42 n
    induction n with
    | zero => intro σ l2 l3 l6 ls H locs hf; exact absurd hf (by simp [FM_layTour_66])
    | succ n ih =>
      intro σ l2 l3 l6 ls H locs hf hl hP hD hS
      rw [FM_layTour_66] at hf
      refine lv_iload hx hb dX9_layTour_66 (lv_at hl 3 rfl) ?_
      refine lv_iload_n hx hb dX9_layTour_68 rfl (lv_at hl 1 rfl) ?_
      refine lv_icmp_ge (tgt := 92) hx hb dX9_layTour_69 (by decide) (fun c10 => ?_) (fun c10 => ?_)
      · have hf := (if_pos c10).symm.trans hf
        exact b92 ag42 hag42 _ _ _ _ _ _ hf (lv_sub hl [0, 1, 2] rfl) hP hD hS
      · have hf := (if_neg c10).symm.trans hf
        refine lv_aload_n hx hb dX9_layTour_72 rfl (lv_at hl 0 rfl) ?_
        refine Mg_21 S hin hK hP f34 dX9_layTour_73 ?_
        refine lv_iload hx hb dX9_layTour_76 (lv_at hl 3 rfl) ?_
        refine lv_aload_n hx hb dX9_layTour_78 rfl (lv_at hl 0 rfl) ?_
        refine Mg_20 S hin hK hP f31 dX9_layTour_79 ?_
        refine lv_iload hx hb dX9_layTour_82 (lv_at hl 3 rfl) ?_
        obtain ⟨g11, hf⟩ := gd_some hf
        refine Ml_20 S hK hP g11 dX9_layTour_84 ?_
        obtain ⟨g12, hf⟩ := gd_some hf
        refine Ms_21 S hK hP hD hS g12 dX9_layTour_85 (fun H locs hP hD hS => ?_)
        obtain ⟨σ13, eσ13, hf⟩ := nm_some hf
        rw [← eσ13] at hP hD
        obtain ⟨x14, ex14, hf⟩ := nm_some hf
        refine lv_iinc (v := x14) (lv' := [(6, .int x14), (0, .ref (h 0)), (2, .int l2), (3, .int l3)]) hx hb dX9_layTour_86 hl (k := 3) rfl (by rw [ex14]; rfl) (by decide) rfl (fun ls hl => ?_)
        refine lv_goto (tgt := 66) hx hb dX9_layTour_89 (by decide) ?_
        exact ih _ _ _ _ _ _ _ hf (lv_sub hl [1, 2, 3, 0] rfl) hP hD hS
  have b42 : ∀ (n : Nat), ∀ (σ : MS) (l2 : Int32) (l3 : Int32) (l4 : Int32) (ls : Array Slot) (H : Heap) (locs : List Loc), FM_layTour_42 n σ l2 l3 l4 = some (r, σ') → lv_has ls 7 [(0, .ref (h 0)), (2, .int l2), (3, .int l3), (4, .int l4)] → va_P D vwCl (mw h cI cZ σ) H → va_D A (mw h cI cZ σ) → va_S A s.heap H locs → W p l e R s m args below meth c H locs 0 0 Q (F0 m 42 ls []) := by
    intro n
    induction n with
    | zero => intro σ l2 l3 l4 ls H locs hf; exact absurd hf (by simp [FM_layTour_42])
    | succ n ih =>
      intro σ l2 l3 l4 ls H locs hf hl hP hD hS
      rw [FM_layTour_42] at hf
      refine lv_iload hx hb dX9_layTour_42 (lv_at hl 3 rfl) ?_
      refine lv_if_eq (tgt := 102) hx hb dX9_layTour_44 (by decide) (fun c7 => ?_) (fun c7 => ?_)
      · have hf := (if_pos c7).symm.trans hf
        refine lv_iload_n hx hb dX9_layTour_102 rfl (lv_at hl 2 rfl) ?_
        exact hre _ _ _ _ _ _ hf hP hD hS dX9_layTour_103
      · have hf := (if_neg c7).symm.trans hf
        refine lv_aload_n hx hb dX9_layTour_47 rfl (lv_at hl 0 rfl) ?_
        refine lv_iload_n hx hb dX9_layTour_48 rfl (lv_at hl 1 rfl) ?_
        obtain ⟨r8, hr8, hf⟩ := bi_some hf
        refine kc_v (ci := 8) (q0 := 0) (n := 1) S hRf hRl hK hA hP hD hS hl [.int l2] [] (kM_daysOf l D h cI cZ σ l2 r8 hr8) gX9_layTour_X9_daysOf rfl (by decide +kernel) rfl ⟨by decide, by decide⟩ rfl rfl rfl rfl (Nat.le_of_ble_eq_true rfl) dX9_layTour_49 (fun H locs hP hD hS => ?_)
        refine W.eq (g2 := F0 m 52 ls [.int r8]) rfl ?_
        refine lv_istore (lv' := [(5, .int r8), (0, .ref (h 0)), (2, .int l2), (3, .int l3), (4, .int l4)]) hx hb dX9_layTour_52 hl (by decide) rfl (fun ls hl => ?_)
        refine lv_iload hx hb dX9_layTour_54 (lv_at hl 0 rfl) ?_
        refine lv_iload_n hx hb dX9_layTour_56 rfl (lv_at hl 3 rfl) ?_
        refine lv_icmp_ge (tgt := 92) hx hb dX9_layTour_57 (by decide) (fun c9 => ?_) (fun c9 => ?_)
        · have hf := (if_pos c9).symm.trans hf
          exact b92 (FM_layTour_42 n) ih _ _ _ _ _ _ hf (lv_sub hl [1, 2, 3] rfl) hP hD hS
        · have hf := (if_neg c9).symm.trans hf
          refine lv_iload hx hb dX9_layTour_60 (lv_at hl 0 rfl) ?_
          refine lv_istore_n (lv' := [(3, .int r8), (5, .int r8), (0, .ref (h 0)), (2, .int l2), (4, .int l4)]) hx hb dX9_layTour_62 rfl hl (by decide) rfl (fun ls hl => ?_)
          refine lv_iconst (v := 0) hx hb dX9_layTour_63 (by decide) ?_
          refine lv_istore (lv' := [(6, .int 0), (3, .int r8), (5, .int r8), (0, .ref (h 0)), (2, .int l2), (4, .int l4)]) hx hb dX9_layTour_64 hl (by decide) rfl (fun ls hl => ?_)
          exact b66 (FM_layTour_42 n) ih fuelN _ _ _ _ _ _ _ hf (lv_sub hl [3, 4, 1, 0] rfl) hP hD hS
  have b29 : ∀ (ag4 : MS → Int32 → Int32 → Int32 → Option (Int32 × MS)) (hag4 : ∀ (σ : MS) (l1 : Int32) (l2 : Int32) (l3 : Int32) (ls : Array Slot) (H : Heap) (locs : List Loc), ag4 σ l1 l2 l3 = some (r, σ') → lv_has ls 7 [(0, .ref (h 0)), (1, .int l1), (2, .int l2), (3, .int l3)] → va_P D vwCl (mw h cI cZ σ) H → va_D A (mw h cI cZ σ) → va_S A s.heap H locs → W p l e R s m args below meth c H locs 0 0 Q (F0 m 4 ls [])), ∀ (σ : MS) (l1 : Int32) (l2 : Int32) (l3 : Int32) (ls : Array Slot) (H : Heap) (locs : List Loc), FM_layTour_29 ag4 σ l1 l2 l3 = some (r, σ') → lv_has ls 7 [(0, .ref (h 0)), (1, .int l1), (2, .int l2), (3, .int l3)] → va_P D vwCl (mw h cI cZ σ) H → va_D A (mw h cI cZ σ) → va_S A s.heap H locs → W p l e R s m args below meth c H locs 0 0 Q (F0 m 29 ls []) := by
    intro ag4 hag4 σ l1 l2 l3 ls H locs hf hl hP hD hS
    unfold FM_layTour_29 at hf
    obtain ⟨x6, ex6, hf⟩ := nm_some hf
    refine lv_iinc (v := x6) (lv' := [(3, .int x6), (0, .ref (h 0)), (1, .int l1), (2, .int l2)]) hx hb dX9_layTour_29 hl (k := 3) rfl (by rw [ex6]; rfl) (by decide) rfl (fun ls hl => ?_)
    refine lv_goto (tgt := 4) hx hb dX9_layTour_32 (by decide) ?_
    exact hag4 _ _ _ _ _ _ _ hf (lv_sub hl [1, 2, 3, 0] rfl) hP hD hS
  have b4 : ∀ (n : Nat), ∀ (σ : MS) (l1 : Int32) (l2 : Int32) (l3 : Int32) (ls : Array Slot) (H : Heap) (locs : List Loc), FM_layTour_4 n σ l1 l2 l3 = some (r, σ') → lv_has ls 7 [(0, .ref (h 0)), (1, .int l1), (2, .int l2), (3, .int l3)] → va_P D vwCl (mw h cI cZ σ) H → va_D A (mw h cI cZ σ) → va_S A s.heap H locs → W p l e R s m args below meth c H locs 0 0 Q (F0 m 4 ls []) := by
    intro n
    induction n with
    | zero => intro σ l1 l2 l3 ls H locs hf; exact absurd hf (by simp [FM_layTour_4])
    | succ n ih =>
      intro σ l1 l2 l3 ls H locs hf hl hP hD hS
      rw [FM_layTour_4] at hf
      refine lv_iload_n hx hb dX9_layTour_4 rfl (lv_at hl 3 rfl) ?_
      refine lv_bipush (v := 6) hx hb dX9_layTour_5 (by decide) ?_
      refine lv_icmp_ge (tgt := 35) hx hb dX9_layTour_7 (by decide) (fun c1 => ?_) (fun c1 => ?_)
      · have hf := (if_pos c1).symm.trans hf
        refine lv_sipush (v := 10000) hx hb dX9_layTour_35 (by decide) ?_
        refine lv_istore_n (lv' := [(3, .int 10000), (0, .ref (h 0)), (1, .int l1), (2, .int l2)]) hx hb dX9_layTour_38 rfl hl (by decide) rfl (fun ls hl => ?_)
        refine lv_iconst (v := 1) hx hb dX9_layTour_39 (by decide) ?_
        refine lv_istore (lv' := [(4, .int 1), (3, .int 10000), (0, .ref (h 0)), (1, .int l1), (2, .int l2)]) hx hb dX9_layTour_40 hl (by decide) rfl (fun ls hl => ?_)
        exact b42 fuelN _ _ _ _ _ _ _ hf (lv_sub hl [2, 4, 1, 0] rfl) hP hD hS
      · have hf := (if_neg c1).symm.trans hf
        refine lv_iload_n hx hb dX9_layTour_10 rfl (lv_at hl 1 rfl) ?_
        refine lv_iload_n hx hb dX9_layTour_11 rfl (lv_at hl 3 rfl) ?_
        refine lv_ishr hx hb dX9_layTour_12 ?_
        refine lv_iconst (v := 1) hx hb dX9_layTour_13 (by decide) ?_
        refine lv_iand hx hb dX9_layTour_14 ?_
        refine lv_iconst (v := 1) hx hb dX9_layTour_15 (by decide) ?_
        refine lv_icmp_ne (tgt := 29) hx hb dX9_layTour_16 (by decide) (fun c2 => ?_) (fun c2 => ?_)
        · have hf := (if_neg c2).symm.trans hf
          exact b29 (FM_layTour_4 n) ih _ _ _ _ _ _ _ hf (lv_sub hl [0, 1, 2, 3] rfl) hP hD hS
        · have hf := (if_pos c2).symm.trans hf
          refine lv_aload_n hx hb dX9_layTour_19 rfl (lv_at hl 0 rfl) ?_
          refine Mg_20 S hin hK hP f31 dX9_layTour_20 ?_
          refine lv_iload_n hx hb dX9_layTour_23 rfl (lv_at hl 2 rfl) ?_
          refine lv_iload_n hx hb dX9_layTour_24 rfl (lv_at hl 3 rfl) ?_
          obtain ⟨g3, hf⟩ := gd_some hf
          refine Ms_20 S hK hP hD hS g3 dX9_layTour_25 (fun H locs hP hD hS => ?_)
          obtain ⟨σ4, eσ4, hf⟩ := nm_some hf
          rw [← eσ4] at hP hD
          obtain ⟨x5, ex5, hf⟩ := nm_some hf
          refine lv_iinc (v := x5) (lv' := [(2, .int x5), (0, .ref (h 0)), (1, .int l1), (3, .int l3)]) hx hb dX9_layTour_26 hl (k := 2) rfl (by rw [ex5]; rfl) (by decide) rfl (fun ls hl => ?_)
          exact b29 (FM_layTour_4 n) ih _ _ _ _ _ _ _ hf (lv_sub hl [1, 2, 0, 3] rfl) hP hD hS
  unfold FM_layTour at hf
  refine lv_iconst (v := 0) hx hb dX9_layTour_0 (by decide) ?_
  refine lv_istore_n (lv' := [(2, .int 0), (0, .ref (h 0)), (1, .int a1)]) hx hb dX9_layTour_1 rfl hl (by decide) rfl (fun ls hl => ?_)
  refine lv_iconst (v := 0) hx hb dX9_layTour_2 (by decide) ?_
  refine lv_istore_n (lv' := [(3, .int 0), (2, .int 0), (0, .ref (h 0)), (1, .int a1)]) hx hb dX9_layTour_3 rfl hl (by decide) rfl (fun ls hl => ?_)
  exact b4 fuelN _ _ _ _ _ _ _ hf (lv_sub hl [2, 3, 1, 0] rfl) hP hD hS
