def FM_savedBy_110 (ag5 : MS → Int32 → Int32 → Int32 → Int32 → Option Int32) (σ : MS) (l1 : Int32) (l2 : Int32) (l4 : Int32) (s0 : Int32) (s1 : Int32) : Option Int32 :=
  nm (s1 + s0) fun (x16 : Int32) => nm (l4 + 1) fun (x17 : Int32) => ag5 σ l1 l2 x16 x17
def FM_savedBy_109 (ag5 : MS → Int32 → Int32 → Int32 → Int32 → Option Int32) (σ : MS) (l1 : Int32) (l2 : Int32) (l4 : Int32) (s0 : Int32) : Option Int32 :=
  FM_savedBy_110 ag5 σ l1 l2 l4 0 s0
def FM_savedBy_92 (ag5 : MS → Int32 → Int32 → Int32 → Int32 → Option Int32) (σ : MS) (l1 : Int32) (l2 : Int32) (l3 : Int32) (l4 : Int32) (l5 : Int32) (s0 : Int32) : Option Int32 :=
  if l5 = 0 then (FM_savedBy_109 ag5 σ l1 l2 l4 l3) else (if s0 = 0 then (FM_savedBy_109 ag5 σ l1 l2 l4 l3) else (FM_savedBy_110 ag5 σ l1 l2 l4 1 l3))
def FM_savedBy_91 (ag5 : MS → Int32 → Int32 → Int32 → Int32 → Option Int32) (σ : MS) (l1 : Int32) (l2 : Int32) (l3 : Int32) (l4 : Int32) (l5 : Int32) : Option Int32 :=
  FM_savedBy_92 ag5 σ l1 l2 l3 l4 l5 0
def FM_savedBy_46 (ag5 : MS → Int32 → Int32 → Int32 → Int32 → Option Int32) (σ : MS) (l1 : Int32) (l2 : Int32) (l3 : Int32) (l4 : Int32) (s0 : Int32) : Option Int32 :=
  Option.bind (FM_of σ l4 0) fun (r7 : Int32) => if r7 = 5 then (FM_savedBy_91 ag5 σ l1 l2 l3 l4 s0) else (Option.bind (FM_of σ l4 5) fun (r9 : Int32) => if r9 = 0 then (Option.bind (FM_of σ l4 2) fun (r11 : Int32) => Option.bind (FM_spanOf σ l4) fun (r12 : Int32) => if r12 < (r11 + l2) then (FM_savedBy_91 ag5 σ l1 l2 l3 l4 s0) else (FM_savedBy_92 ag5 σ l1 l2 l3 l4 s0 1)) else (FM_savedBy_91 ag5 σ l1 l2 l3 l4 s0))
def FM_savedBy_45 (ag5 : MS → Int32 → Int32 → Int32 → Int32 → Option Int32) (σ : MS) (l1 : Int32) (l2 : Int32) (l3 : Int32) (l4 : Int32) : Option Int32 :=
  FM_savedBy_46 ag5 σ l1 l2 l3 l4 0
def FM_savedBy_5  : Nat → MS → Int32 → Int32 → Int32 → Int32 → Option Int32
  | 0, _, _, _, _, _ => none
  | n + 1, σ, l1, l2, l3, l4 => gd (¬ ((3 : Int32) < 0 ∨ 147 ≤ Int32.toNatClampNeg 3)) (if (σ.2 5 (Int32.toNatClampNeg 3)) ≤ l4 then (some l3) else (Option.bind (FM_of σ l4 3) fun (r3 : Int32) => if r3 = 0 then (Option.bind (FM_of σ l4 1) fun (r5 : Int32) => if ((l1 >>> (r5 &&& 31)) &&& 1) = 1 then (FM_savedBy_46 (FM_savedBy_5 n) σ l1 l2 l3 l4 1) else (FM_savedBy_45 (FM_savedBy_5 n) σ l1 l2 l3 l4)) else (FM_savedBy_45 (FM_savedBy_5 n) σ l1 l2 l3 l4)))
def FM_savedBy (σ : MS) (a1 : Int32) (a2 : Int32) : Option Int32 :=
  FM_savedBy_5 fuelN σ a1 a2 0 0
set_option maxHeartbeats 4000000 in
set_option maxRecDepth 100000 in
theorem kM_savedBy (l : Launch) (D : va_G) (h : Nat → Nat) (cI cZ : ClassId) (σ : MS) (a1 : Int32) (a2 : Int32) (r : Int32) (hf : FM_savedBy σ a1 a2 = some r) : KK l D [(cI, .int), (cZ, .boolean)] yX9_savedBy wsX9_savedBy 2 44 [.ref (h 0), .int a1, .int a2] (mw h cI cZ σ) (some (.int r)) (mw h cI cZ σ) := by
  refine KK.ofI (own := RX9) (cc := cX9_savedBy) (maxL := 7) (by decide) rfl rfl (Nat.le_of_ble_eq_true rfl) ?_
  intro p e s m args below meth c R Q A ls S hRf hRl hK hA hP hD hS hl hret
  obtain ⟨hx, hb, hml, hown, hts⟩ := id S
  have hin : ∀ w ∈ wsX90, w ∈ wsX9_savedBy := fun w hw => List.mem_cons_of_mem _ (List.mem_append_right _ hw)
  have f19 := hts (.fieldLink RX9 19 "PenniesAwayModel" "realm" "[I") (by decide +kernel)
  have hl : lv_has ls 7 [(0, .ref (h 0)), (1, .int a1), (2, .int a2)] := hl
  have hre : ∀ (x : Int32) (pc : Nat) (ls : Array Slot) (H : Heap) (locs : List Loc), (some x : Option Int32) = some r → va_P D vwCl (mw h cI cZ σ) H → va_D A (mw h cI cZ σ) → va_S A s.heap H locs → decode cX9_savedBy pc = .ok (.ireturn, 1) → W p l e R s m args below meth c H locs 0 0 Q (F0 m pc ls [.int x]) := by intro x pc ls H locs he; cases he; exact hret pc ls H locs
  have b110 : ∀ (ag5 : MS → Int32 → Int32 → Int32 → Int32 → Option Int32) (hag5 : ∀ (l1 : Int32) (l2 : Int32) (l3 : Int32) (l4 : Int32) (ls : Array Slot) (H : Heap) (locs : List Loc), ag5 σ l1 l2 l3 l4 = some r → lv_has ls 7 [(0, .ref (h 0)), (1, .int l1), (2, .int l2), (3, .int l3), (4, .int l4)] → va_P D vwCl (mw h cI cZ σ) H → va_D A (mw h cI cZ σ) → va_S A s.heap H locs → W p l e R s m args below meth c H locs 0 0 Q (F0 m 5 ls [])), ∀ (l1 : Int32) (l2 : Int32) (l4 : Int32) (s0 : Int32) (s1 : Int32) (ls : Array Slot) (H : Heap) (locs : List Loc), FM_savedBy_110 ag5 σ l1 l2 l4 s0 s1 = some r → lv_has ls 7 [(0, .ref (h 0)), (1, .int l1), (2, .int l2), (4, .int l4)] → va_P D vwCl (mw h cI cZ σ) H → va_D A (mw h cI cZ σ) → va_S A s.heap H locs → W p l e R s m args below meth c H locs 0 0 Q (F0 m 110 ls [.int s0, .int s1]) := by
    intro ag5 hag5 l1 l2 l4 s0 s1 ls H locs hf hl hP hD hS
    unfold FM_savedBy_110 at hf
    refine lv_iadd hx hb dX9_savedBy_110 ?_
    refine lv_topi (fun x16 ex16 => ?_)
    have hf := nm_at ex16 hf
    refine lv_istore_n (lv' := [(3, .int x16), (0, .ref (h 0)), (1, .int l1), (2, .int l2), (4, .int l4)]) hx hb dX9_savedBy_111 rfl hl (by decide) rfl (fun ls hl => ?_)
    obtain ⟨x17, ex17, hf⟩ := nm_some hf
    refine lv_iinc (v := x17) (lv' := [(4, .int x17), (3, .int x16), (0, .ref (h 0)), (1, .int l1), (2, .int l2)]) hx hb dX9_savedBy_112 hl (k := 4) rfl (by rw [ex17]; rfl) (by decide) rfl (fun ls hl => ?_)
    refine lv_goto (tgt := 5) hx hb dX9_savedBy_115 (by decide) ?_
    exact hag5 _ _ _ _ _ _ _ hf (lv_sub hl [2, 3, 4, 1, 0] rfl) hP hD hS
  have b109 : ∀ (ag5 : MS → Int32 → Int32 → Int32 → Int32 → Option Int32) (hag5 : ∀ (l1 : Int32) (l2 : Int32) (l3 : Int32) (l4 : Int32) (ls : Array Slot) (H : Heap) (locs : List Loc), ag5 σ l1 l2 l3 l4 = some r → lv_has ls 7 [(0, .ref (h 0)), (1, .int l1), (2, .int l2), (3, .int l3), (4, .int l4)] → va_P D vwCl (mw h cI cZ σ) H → va_D A (mw h cI cZ σ) → va_S A s.heap H locs → W p l e R s m args below meth c H locs 0 0 Q (F0 m 5 ls [])), ∀ (l1 : Int32) (l2 : Int32) (l4 : Int32) (s0 : Int32) (ls : Array Slot) (H : Heap) (locs : List Loc), FM_savedBy_109 ag5 σ l1 l2 l4 s0 = some r → lv_has ls 7 [(0, .ref (h 0)), (1, .int l1), (2, .int l2), (4, .int l4)] → va_P D vwCl (mw h cI cZ σ) H → va_D A (mw h cI cZ σ) → va_S A s.heap H locs → W p l e R s m args below meth c H locs 0 0 Q (F0 m 109 ls [.int s0]) := by
    intro ag5 hag5 l1 l2 l4 s0 ls H locs hf hl hP hD hS
    unfold FM_savedBy_109 at hf
    refine lv_iconst (v := 0) hx hb dX9_savedBy_109 (by decide) ?_
    exact b110 ag5 hag5 _ _ _ _ _ _ _ _ hf (lv_sub hl [0, 1, 2, 3] rfl) hP hD hS
  have b92 : ∀ (ag5 : MS → Int32 → Int32 → Int32 → Int32 → Option Int32) (hag5 : ∀ (l1 : Int32) (l2 : Int32) (l3 : Int32) (l4 : Int32) (ls : Array Slot) (H : Heap) (locs : List Loc), ag5 σ l1 l2 l3 l4 = some r → lv_has ls 7 [(0, .ref (h 0)), (1, .int l1), (2, .int l2), (3, .int l3), (4, .int l4)] → va_P D vwCl (mw h cI cZ σ) H → va_D A (mw h cI cZ σ) → va_S A s.heap H locs → W p l e R s m args below meth c H locs 0 0 Q (F0 m 5 ls [])), ∀ (l1 : Int32) (l2 : Int32) (l3 : Int32) (l4 : Int32) (l5 : Int32) (s0 : Int32) (ls : Array Slot) (H : Heap) (locs : List Loc), FM_savedBy_92 ag5 σ l1 l2 l3 l4 l5 s0 = some r → lv_has ls 7 [(0, .ref (h 0)), (1, .int l1), (2, .int l2), (3, .int l3), (4, .int l4), (5, .int l5)] → va_P D vwCl (mw h cI cZ σ) H → va_D A (mw h cI cZ σ) → va_S A s.heap H locs → W p l e R s m args below meth c H locs 0 0 Q (F0 m 92 ls [.int s0]) := by
    intro ag5 hag5 l1 l2 l3 l4 l5 s0 ls H locs hf hl hP hD hS
    unfold FM_savedBy_92 at hf
    refine lv_istore (lv' := [(6, .int s0), (0, .ref (h 0)), (1, .int l1), (2, .int l2), (3, .int l3), (4, .int l4), (5, .int l5)]) hx hb dX9_savedBy_92 hl (by decide) rfl (fun ls hl => ?_)
    refine lv_iload_n hx hb dX9_savedBy_94 rfl (lv_at hl 4 rfl) ?_
    refine lv_iload hx hb dX9_savedBy_95 (lv_at hl 6 rfl) ?_
    refine lv_if_eq (tgt := 109) hx hb dX9_savedBy_97 (by decide) (fun c14 => ?_) (fun c14 => ?_)
    · have hf := (if_pos c14).symm.trans hf
      exact b109 ag5 hag5 _ _ _ _ _ _ _ hf (lv_sub hl [1, 2, 3, 5] rfl) hP hD hS
    · have hf := (if_neg c14).symm.trans hf
      refine lv_iload hx hb dX9_savedBy_100 (lv_at hl 0 rfl) ?_
      refine lv_if_eq (tgt := 109) hx hb dX9_savedBy_102 (by decide) (fun c15 => ?_) (fun c15 => ?_)
      · have hf := (if_pos c15).symm.trans hf
        exact b109 ag5 hag5 _ _ _ _ _ _ _ hf (lv_sub hl [1, 2, 3, 5] rfl) hP hD hS
      · have hf := (if_neg c15).symm.trans hf
        refine lv_iconst (v := 1) hx hb dX9_savedBy_105 (by decide) ?_
        refine lv_goto (tgt := 110) hx hb dX9_savedBy_106 (by decide) ?_
        exact b110 ag5 hag5 _ _ _ _ _ _ _ _ hf (lv_sub hl [1, 2, 3, 5] rfl) hP hD hS
  have b91 : ∀ (ag5 : MS → Int32 → Int32 → Int32 → Int32 → Option Int32) (hag5 : ∀ (l1 : Int32) (l2 : Int32) (l3 : Int32) (l4 : Int32) (ls : Array Slot) (H : Heap) (locs : List Loc), ag5 σ l1 l2 l3 l4 = some r → lv_has ls 7 [(0, .ref (h 0)), (1, .int l1), (2, .int l2), (3, .int l3), (4, .int l4)] → va_P D vwCl (mw h cI cZ σ) H → va_D A (mw h cI cZ σ) → va_S A s.heap H locs → W p l e R s m args below meth c H locs 0 0 Q (F0 m 5 ls [])), ∀ (l1 : Int32) (l2 : Int32) (l3 : Int32) (l4 : Int32) (l5 : Int32) (ls : Array Slot) (H : Heap) (locs : List Loc), FM_savedBy_91 ag5 σ l1 l2 l3 l4 l5 = some r → lv_has ls 7 [(0, .ref (h 0)), (1, .int l1), (2, .int l2), (3, .int l3), (4, .int l4), (5, .int l5)] → va_P D vwCl (mw h cI cZ σ) H → va_D A (mw h cI cZ σ) → va_S A s.heap H locs → W p l e R s m args below meth c H locs 0 0 Q (F0 m 91 ls []) := by
    intro ag5 hag5 l1 l2 l3 l4 l5 ls H locs hf hl hP hD hS
    unfold FM_savedBy_91 at hf
    refine lv_iconst (v := 0) hx hb dX9_savedBy_91 (by decide) ?_
    exact b92 ag5 hag5 _ _ _ _ _ _ _ _ _ hf (lv_sub hl [0, 1, 2, 3, 4, 5] rfl) hP hD hS
  have b46 : ∀ (ag5 : MS → Int32 → Int32 → Int32 → Int32 → Option Int32) (hag5 : ∀ (l1 : Int32) (l2 : Int32) (l3 : Int32) (l4 : Int32) (ls : Array Slot) (H : Heap) (locs : List Loc), ag5 σ l1 l2 l3 l4 = some r → lv_has ls 7 [(0, .ref (h 0)), (1, .int l1), (2, .int l2), (3, .int l3), (4, .int l4)] → va_P D vwCl (mw h cI cZ σ) H → va_D A (mw h cI cZ σ) → va_S A s.heap H locs → W p l e R s m args below meth c H locs 0 0 Q (F0 m 5 ls [])), ∀ (l1 : Int32) (l2 : Int32) (l3 : Int32) (l4 : Int32) (s0 : Int32) (ls : Array Slot) (H : Heap) (locs : List Loc), FM_savedBy_46 ag5 σ l1 l2 l3 l4 s0 = some r → lv_has ls 7 [(0, .ref (h 0)), (1, .int l1), (2, .int l2), (3, .int l3), (4, .int l4)] → va_P D vwCl (mw h cI cZ σ) H → va_D A (mw h cI cZ σ) → va_S A s.heap H locs → W p l e R s m args below meth c H locs 0 0 Q (F0 m 46 ls [.int s0]) := by
    intro ag5 hag5 l1 l2 l3 l4 s0 ls H locs hf hl hP hD hS
    unfold FM_savedBy_46 at hf
    refine lv_istore (lv' := [(5, .int s0), (0, .ref (h 0)), (1, .int l1), (2, .int l2), (3, .int l3), (4, .int l4)]) hx hb dX9_savedBy_46 hl (by decide) rfl (fun ls hl => ?_)
    refine lv_aload_n hx hb dX9_savedBy_48 rfl (lv_at hl 1 rfl) ?_
    refine lv_iload hx hb dX9_savedBy_49 (lv_at hl 5 rfl) ?_
    refine lv_iconst (v := 0) hx hb dX9_savedBy_51 (by decide) ?_
    obtain ⟨r7, hr7, hf⟩ := bi_some hf
    refine kc_v (ci := 8) (q0 := 0) (n := 2) S hRf hRl hK hA hP hD hS hl [.int l4, .int 0] [] (kM_of l D h cI cZ σ l4 0 r7 hr7) gX9_savedBy_X9_of rfl (by decide +kernel) rfl ⟨by decide, by decide⟩ rfl rfl rfl rfl (Nat.le_of_ble_eq_true rfl) dX9_savedBy_52 (fun H locs hP hD hS => ?_)
    refine W.eq (g2 := F0 m 55 ls [.int r7]) rfl ?_
    refine lv_iconst (v := 5) hx hb dX9_savedBy_55 (by decide) ?_
    refine lv_icmp_eq (tgt := 91) hx hb dX9_savedBy_56 (by decide) (fun c8 => ?_) (fun c8 => ?_)
    · have hf := (if_pos c8).symm.trans hf
      exact b91 ag5 hag5 _ _ _ _ _ _ _ _ hf (lv_sub hl [1, 2, 3, 4, 5, 0] rfl) hP hD hS
    · have hf := (if_neg c8).symm.trans hf
      refine lv_aload_n hx hb dX9_savedBy_59 rfl (lv_at hl 1 rfl) ?_
      refine lv_iload hx hb dX9_savedBy_60 (lv_at hl 5 rfl) ?_
      refine lv_iconst (v := 5) hx hb dX9_savedBy_62 (by decide) ?_
      obtain ⟨r9, hr9, hf⟩ := bi_some hf
      refine kc_v (ci := 8) (q0 := 0) (n := 2) S hRf hRl hK hA hP hD hS hl [.int l4, .int 5] [] (kM_of l D h cI cZ σ l4 5 r9 hr9) gX9_savedBy_X9_of rfl (by decide +kernel) rfl ⟨by decide, by decide⟩ rfl rfl rfl rfl (Nat.le_of_ble_eq_true rfl) dX9_savedBy_63 (fun H locs hP hD hS => ?_)
      refine W.eq (g2 := F0 m 66 ls [.int r9]) rfl ?_
      refine lv_if_ne (tgt := 91) hx hb dX9_savedBy_66 (by decide) (fun c10 => ?_) (fun c10 => ?_)
      · have hf := (if_neg c10).symm.trans hf
        exact b91 ag5 hag5 _ _ _ _ _ _ _ _ hf (lv_sub hl [1, 2, 3, 4, 5, 0] rfl) hP hD hS
      · have hf := (if_pos c10).symm.trans hf
        refine lv_aload_n hx hb dX9_savedBy_69 rfl (lv_at hl 1 rfl) ?_
        refine lv_iload hx hb dX9_savedBy_70 (lv_at hl 5 rfl) ?_
        refine lv_iconst (v := 2) hx hb dX9_savedBy_72 (by decide) ?_
        obtain ⟨r11, hr11, hf⟩ := bi_some hf
        refine kc_v (ci := 8) (q0 := 0) (n := 2) S hRf hRl hK hA hP hD hS hl [.int l4, .int 2] [] (kM_of l D h cI cZ σ l4 2 r11 hr11) gX9_savedBy_X9_of rfl (by decide +kernel) rfl ⟨by decide, by decide⟩ rfl rfl rfl rfl (Nat.le_of_ble_eq_true rfl) dX9_savedBy_73 (fun H locs hP hD hS => ?_)
        refine W.eq (g2 := F0 m 76 ls [.int r11]) rfl ?_
        refine lv_iload_n hx hb dX9_savedBy_76 rfl (lv_at hl 3 rfl) ?_
        refine lv_iadd hx hb dX9_savedBy_77 ?_
        refine lv_aload_n hx hb dX9_savedBy_78 rfl (lv_at hl 1 rfl) ?_
        refine lv_iload hx hb dX9_savedBy_79 (lv_at hl 5 rfl) ?_
        obtain ⟨r12, hr12, hf⟩ := bi_some hf
        refine kc_v (ci := 8) (q0 := 0) (n := 1) S hRf hRl hK hA hP hD hS hl [.int l4] [.int (r11 + l2)] (kM_spanOf l D h cI cZ σ l4 r12 hr12) gX9_savedBy_X9_spanOf rfl (by decide +kernel) rfl ⟨by decide, by decide⟩ rfl rfl rfl rfl (Nat.le_of_ble_eq_true rfl) dX9_savedBy_81 (fun H locs hP hD hS => ?_)
        refine W.eq (g2 := F0 m 84 ls [.int r12, .int (r11 + l2)]) rfl ?_
        refine lv_icmp_gt (tgt := 91) hx hb dX9_savedBy_84 (by decide) (fun c13 => ?_) (fun c13 => ?_)
        · have hf := (if_pos c13).symm.trans hf
          exact b91 ag5 hag5 _ _ _ _ _ _ _ _ hf (lv_sub hl [1, 2, 3, 4, 5, 0] rfl) hP hD hS
        · have hf := (if_neg c13).symm.trans hf
          refine lv_iconst (v := 1) hx hb dX9_savedBy_87 (by decide) ?_
          refine lv_goto (tgt := 92) hx hb dX9_savedBy_88 (by decide) ?_
          exact b92 ag5 hag5 _ _ _ _ _ _ _ _ _ hf (lv_sub hl [1, 2, 3, 4, 5, 0] rfl) hP hD hS
  have b45 : ∀ (ag5 : MS → Int32 → Int32 → Int32 → Int32 → Option Int32) (hag5 : ∀ (l1 : Int32) (l2 : Int32) (l3 : Int32) (l4 : Int32) (ls : Array Slot) (H : Heap) (locs : List Loc), ag5 σ l1 l2 l3 l4 = some r → lv_has ls 7 [(0, .ref (h 0)), (1, .int l1), (2, .int l2), (3, .int l3), (4, .int l4)] → va_P D vwCl (mw h cI cZ σ) H → va_D A (mw h cI cZ σ) → va_S A s.heap H locs → W p l e R s m args below meth c H locs 0 0 Q (F0 m 5 ls [])), ∀ (l1 : Int32) (l2 : Int32) (l3 : Int32) (l4 : Int32) (ls : Array Slot) (H : Heap) (locs : List Loc), FM_savedBy_45 ag5 σ l1 l2 l3 l4 = some r → lv_has ls 7 [(0, .ref (h 0)), (1, .int l1), (2, .int l2), (3, .int l3), (4, .int l4)] → va_P D vwCl (mw h cI cZ σ) H → va_D A (mw h cI cZ σ) → va_S A s.heap H locs → W p l e R s m args below meth c H locs 0 0 Q (F0 m 45 ls []) := by
    intro ag5 hag5 l1 l2 l3 l4 ls H locs hf hl hP hD hS
    unfold FM_savedBy_45 at hf
    refine lv_iconst (v := 0) hx hb dX9_savedBy_45 (by decide) ?_
    exact b46 ag5 hag5 _ _ _ _ _ _ _ _ hf (lv_sub hl [0, 1, 2, 3, 4] rfl) hP hD hS
  have b5 : ∀ (n : Nat), ∀ (l1 : Int32) (l2 : Int32) (l3 : Int32) (l4 : Int32) (ls : Array Slot) (H : Heap) (locs : List Loc), FM_savedBy_5 n σ l1 l2 l3 l4 = some r → lv_has ls 7 [(0, .ref (h 0)), (1, .int l1), (2, .int l2), (3, .int l3), (4, .int l4)] → va_P D vwCl (mw h cI cZ σ) H → va_D A (mw h cI cZ σ) → va_S A s.heap H locs → W p l e R s m args below meth c H locs 0 0 Q (F0 m 5 ls []) := by
    intro n
    induction n with
    | zero => intro l1 l2 l3 l4 ls H locs hf; exact absurd hf (by simp [FM_savedBy_5])
    | succ n ih =>
      intro l1 l2 l3 l4 ls H locs hf hl hP hD hS
      rw [FM_savedBy_5] at hf
      refine lv_iload hx hb dX9_savedBy_5 (lv_at hl 4 rfl) ?_
      refine lv_aload_n hx hb dX9_savedBy_7 rfl (lv_at hl 0 rfl) ?_
      refine Mg_5 S hin hK hP f19 dX9_savedBy_8 ?_
      refine lv_iconst (v := 3) hx hb dX9_savedBy_11 (by decide) ?_
      obtain ⟨g1, hf⟩ := gd_some hf
      refine Ml_5 S hK hP g1 dX9_savedBy_12 ?_
      refine lv_icmp_ge (tgt := 118) hx hb dX9_savedBy_13 (by decide) (fun c2 => ?_) (fun c2 => ?_)
      · have hf := (if_pos c2).symm.trans hf
        refine lv_iload_n hx hb dX9_savedBy_118 rfl (lv_at hl 3 rfl) ?_
        exact hre _ _ _ _ _ hf hP hD hS dX9_savedBy_119
      · have hf := (if_neg c2).symm.trans hf
        refine lv_aload_n hx hb dX9_savedBy_16 rfl (lv_at hl 0 rfl) ?_
        refine lv_iload hx hb dX9_savedBy_17 (lv_at hl 4 rfl) ?_
        refine lv_iconst (v := 3) hx hb dX9_savedBy_19 (by decide) ?_
        obtain ⟨r3, hr3, hf⟩ := bi_some hf
        refine kc_v (ci := 8) (q0 := 0) (n := 2) S hRf hRl hK hA hP hD hS hl [.int l4, .int 3] [] (kM_of l D h cI cZ σ l4 3 r3 hr3) gX9_savedBy_X9_of rfl (by decide +kernel) rfl ⟨by decide, by decide⟩ rfl rfl rfl rfl (Nat.le_of_ble_eq_true rfl) dX9_savedBy_20 (fun H locs hP hD hS => ?_)
        refine W.eq (g2 := F0 m 23 ls [.int r3]) rfl ?_
        refine lv_if_ne (tgt := 45) hx hb dX9_savedBy_23 (by decide) (fun c4 => ?_) (fun c4 => ?_)
        · have hf := (if_neg c4).symm.trans hf
          exact b45 (FM_savedBy_5 n) ih _ _ _ _ _ _ _ hf (lv_sub hl [0, 1, 2, 3, 4] rfl) hP hD hS
        · have hf := (if_pos c4).symm.trans hf
          refine lv_iload_n hx hb dX9_savedBy_26 rfl (lv_at hl 1 rfl) ?_
          refine lv_aload_n hx hb dX9_savedBy_27 rfl (lv_at hl 0 rfl) ?_
          refine lv_iload hx hb dX9_savedBy_28 (lv_at hl 4 rfl) ?_
          refine lv_iconst (v := 1) hx hb dX9_savedBy_30 (by decide) ?_
          obtain ⟨r5, hr5, hf⟩ := bi_some hf
          refine kc_v (ci := 8) (q0 := 0) (n := 2) S hRf hRl hK hA hP hD hS hl [.int l4, .int 1] [.int l1] (kM_of l D h cI cZ σ l4 1 r5 hr5) gX9_savedBy_X9_of rfl (by decide +kernel) rfl ⟨by decide, by decide⟩ rfl rfl rfl rfl (Nat.le_of_ble_eq_true rfl) dX9_savedBy_31 (fun H locs hP hD hS => ?_)
          refine W.eq (g2 := F0 m 34 ls [.int r5, .int l1]) rfl ?_
          refine lv_ishr hx hb dX9_savedBy_34 ?_
          refine lv_iconst (v := 1) hx hb dX9_savedBy_35 (by decide) ?_
          refine lv_iand hx hb dX9_savedBy_36 ?_
          refine lv_iconst (v := 1) hx hb dX9_savedBy_37 (by decide) ?_
          refine lv_icmp_ne (tgt := 45) hx hb dX9_savedBy_38 (by decide) (fun c6 => ?_) (fun c6 => ?_)
          · have hf := (if_neg c6).symm.trans hf
            exact b45 (FM_savedBy_5 n) ih _ _ _ _ _ _ _ hf (lv_sub hl [0, 1, 2, 3, 4] rfl) hP hD hS
          · have hf := (if_pos c6).symm.trans hf
            refine lv_iconst (v := 1) hx hb dX9_savedBy_41 (by decide) ?_
            refine lv_goto (tgt := 46) hx hb dX9_savedBy_42 (by decide) ?_
            exact b46 (FM_savedBy_5 n) ih _ _ _ _ _ _ _ _ hf (lv_sub hl [0, 1, 2, 3, 4] rfl) hP hD hS
  unfold FM_savedBy at hf
  refine lv_iconst (v := 0) hx hb dX9_savedBy_0 (by decide) ?_
  refine lv_istore_n (lv' := [(3, .int 0), (0, .ref (h 0)), (1, .int a1), (2, .int a2)]) hx hb dX9_savedBy_1 rfl hl (by decide) rfl (fun ls hl => ?_)
  refine lv_iconst (v := 0) hx hb dX9_savedBy_2 (by decide) ?_
  refine lv_istore (lv' := [(4, .int 0), (3, .int 0), (0, .ref (h 0)), (1, .int a1), (2, .int a2)]) hx hb dX9_savedBy_3 hl (by decide) rfl (fun ls hl => ?_)
  exact b5 fuelN _ _ _ _ _ _ _ hf (lv_sub hl [2, 3, 4, 1, 0] rfl) hP hD hS
def FM_tour_66  : Nat → MS → Int32 → Int32 → Int32 → Int32 → Int32 → Option (Int32 × MS)
  | 0, _, _, _, _, _, _ => none
  | n + 1, σ, l1, l2, l3, l4, l5 => if 6 ≤ l5 then (if l2 = (-2) then (Option.bind (FM_savedBy σ l1 l3) fun (r15 : Int32) => some (r15, σ)) else (if l2 = (-1) then (some (l3, σ)) else (if l4 ≤ l2 then (some ((-1000000), σ)) else (gd (¬ ((l2 : Int32) < 0 ∨ 6 ≤ Int32.toNatClampNeg l2)) (some ((σ.2 21 (Int32.toNatClampNeg l2)), σ)))))) else (nm (l4 + ((l1 >>> (l5 &&& 31)) &&& 1)) fun (x16 : Int32) => nm (l5 + 1) fun (x17 : Int32) => (FM_tour_66 n) σ l1 l2 l3 x16 x17)
def FM_tour (σ : MS) (a1 : Int32) (a2 : Int32) : Option (Int32 × MS) :=
  nm (setF σ 0 0) fun (σ1 : MS) => if (σ1.1 7) = 0 then (some ((-1000002), σ1)) else (gd (¬ ((2 : Int32) < 0 ∨ 147 ≤ Int32.toNatClampNeg 2)) (Option.bind (FM_in (Int32.toInt64 a1) 1 (Int32.toInt64 ((1 <<< ((σ1.2 5 (Int32.toNatClampNeg 2)) &&& 31)) - 1))) fun (r4 : Int32) => if r4 = 0 then (some ((-1000001), σ1)) else (if (-2) ≤ a2 then (bd2 (FM_layTour σ1 a1) fun (r7 : Int32) (σ8 : MS) => if r7 = 10000 then (some ((-1000000), σ8)) else (FM_tour_66 fuelN σ8 a1 a2 r7 0 0)) else (some ((-1000001), σ1)))))
set_option maxHeartbeats 4000000 in
set_option maxRecDepth 100000 in
theorem kM_tour (l : Launch) (D : va_G) (h : Nat → Nat) (cI cZ : ClassId) (σ : MS) (a1 : Int32) (a2 : Int32) (r : Int32) (σ' : MS) (hf : FM_tour σ a1 a2 = some (r, σ')) : KK l D [(cI, .int), (cZ, .boolean)] yX9_tour wsX9_tour 3 72 [.ref (h 0), .int a1, .int a2] (mw h cI cZ σ) (some (.int r)) (mw h cI cZ σ') := by
  refine KK.ofI (own := RX9) (cc := cX9_tour) (maxL := 6) (by decide) rfl rfl (Nat.le_of_ble_eq_true rfl) ?_
  intro p e s m args below meth c R Q A ls S hRf hRl hK hA hP hD hS hl hret
  obtain ⟨hx, hb, hml, hown, hts⟩ := id S
  have hin : ∀ w ∈ wsX90, w ∈ wsX9_tour := fun w hw => List.mem_cons_of_mem _ (List.mem_append_right _ hw)
  have f47 := hts (.fieldLink RX9 47 "PenniesAwayModel" "thrown" "I") (by decide +kernel)
  have f179 := hts (.fieldLink RX9 179 "PenniesAwayModel" "isThere" "Z") (by decide +kernel)
  have f19 := hts (.fieldLink RX9 19 "PenniesAwayModel" "realm" "[I") (by decide +kernel)
  have c67 := hts (.constant RX9 67 (-1000001)) (by decide +kernel)
  have c83 := hts (.constant RX9 83 (-1000000)) (by decide +kernel)
  have c210 := hts (.constant RX9 210 (-1000002)) (by decide +kernel)
  have f34 := hts (.fieldLink RX9 34 "PenniesAwayModel" "best" "[I") (by decide +kernel)
  have hl : lv_has ls 6 [(0, .ref (h 0)), (1, .int a1), (2, .int a2)] := hl
  have hre : ∀ (x : Int32) (σx : MS) (pc : Nat) (ls : Array Slot) (H : Heap) (locs : List Loc), (some (x, σx) : Option (Int32 × MS)) = some (r, σ') → va_P D vwCl (mw h cI cZ σx) H → va_D A (mw h cI cZ σx) → va_S A s.heap H locs → decode cX9_tour pc = .ok (.ireturn, 1) → W p l e R s m args below meth c H locs 0 0 Q (F0 m pc ls [.int x]) := by intro x σx pc ls H locs he; cases he; exact hret pc ls H locs
  have b66 : ∀ (n : Nat), ∀ (σ : MS) (l1 : Int32) (l2 : Int32) (l3 : Int32) (l4 : Int32) (l5 : Int32) (ls : Array Slot) (H : Heap) (locs : List Loc), FM_tour_66 n σ l1 l2 l3 l4 l5 = some (r, σ') → lv_has ls 6 [(0, .ref (h 0)), (1, .int l1), (2, .int l2), (3, .int l3), (4, .int l4), (5, .int l5)] → va_P D vwCl (mw h cI cZ σ) H → va_D A (mw h cI cZ σ) → va_S A s.heap H locs → W p l e R s m args below meth c H locs 0 0 Q (F0 m 66 ls []) := by
    intro n
    induction n with
    | zero => intro σ l1 l2 l3 l4 l5 ls H locs hf; exact absurd hf (by simp [FM_tour_66])
    | succ n ih =>
      intro σ l1 l2 l3 l4 l5 ls H locs hf hl hP hD hS
      rw [FM_tour_66] at hf
      refine lv_iload hx hb dX9_tour_66 (lv_at hl 5 rfl) ?_
      refine lv_bipush (v := 6) hx hb dX9_tour_68 (by decide) ?_
      refine lv_icmp_ge (tgt := 90) hx hb dX9_tour_70 (by decide) (fun c10 => ?_) (fun c10 => ?_)
      · have hf := (if_pos c10).symm.trans hf
        refine lv_iload_n hx hb dX9_tour_90 rfl (lv_at hl 2 rfl) ?_
        refine lv_bipush (v := (-2)) hx hb dX9_tour_91 (by decide) ?_
        refine lv_icmp_ne (tgt := 105) hx hb dX9_tour_93 (by decide) (fun c11 => ?_) (fun c11 => ?_)
        · have hf := (if_neg c11).symm.trans hf
          refine lv_iload_n hx hb dX9_tour_105 rfl (lv_at hl 2 rfl) ?_
          refine lv_iconst (v := (-1)) hx hb dX9_tour_106 (by decide) ?_
          refine lv_icmp_ne (tgt := 114) hx hb dX9_tour_107 (by decide) (fun c12 => ?_) (fun c12 => ?_)
          · have hf := (if_neg c12).symm.trans hf
            refine lv_iload_n hx hb dX9_tour_114 rfl (lv_at hl 2 rfl) ?_
            refine lv_iload hx hb dX9_tour_115 (lv_at hl 4 rfl) ?_
            refine lv_icmp_ge (tgt := 129) hx hb dX9_tour_117 (by decide) (fun c13 => ?_) (fun c13 => ?_)
            · have hf := (if_pos c13).symm.trans hf
              refine lv_ldc (v := (-1000000)) hx hb hown c83 dX9_tour_129 ?_
              exact hre _ _ _ _ _ _ hf hP hD hS dX9_tour_131
            · have hf := (if_neg c13).symm.trans hf
              refine lv_aload_n hx hb dX9_tour_120 rfl (lv_at hl 0 rfl) ?_
              refine Mg_21 S hin hK hP f34 dX9_tour_121 ?_
              refine lv_iload_n hx hb dX9_tour_124 rfl (lv_at hl 2 rfl) ?_
              obtain ⟨g14, hf⟩ := gd_some hf
              refine Ml_21 S hK hP g14 dX9_tour_125 ?_
              refine lv_goto (tgt := 131) hx hb dX9_tour_126 (by decide) ?_
              exact hre _ _ _ _ _ _ hf hP hD hS dX9_tour_131
          · have hf := (if_pos c12).symm.trans hf
            refine lv_iload_n hx hb dX9_tour_110 rfl (lv_at hl 3 rfl) ?_
            refine lv_goto (tgt := 131) hx hb dX9_tour_111 (by decide) ?_
            exact hre _ _ _ _ _ _ hf hP hD hS dX9_tour_131
        · have hf := (if_pos c11).symm.trans hf
          refine lv_aload_n hx hb dX9_tour_96 rfl (lv_at hl 0 rfl) ?_
          refine lv_iload_n hx hb dX9_tour_97 rfl (lv_at hl 1 rfl) ?_
          refine lv_iload_n hx hb dX9_tour_98 rfl (lv_at hl 3 rfl) ?_
          obtain ⟨r15, hr15, hf⟩ := bi_some hf
          refine kc_v (ci := 8) (q0 := 0) (n := 2) S hRf hRl hK hA hP hD hS hl [.int l1, .int l3] [] (kM_savedBy l D h cI cZ σ l1 l3 r15 hr15) gX9_tour_X9_savedBy rfl (by decide +kernel) rfl ⟨by decide, by decide⟩ rfl rfl rfl rfl (Nat.le_of_ble_eq_true rfl) dX9_tour_99 (fun H locs hP hD hS => ?_)
          refine W.eq (g2 := F0 m 102 ls [.int r15]) rfl ?_
          refine lv_goto (tgt := 131) hx hb dX9_tour_102 (by decide) ?_
          exact hre _ _ _ _ _ _ hf hP hD hS dX9_tour_131
      · have hf := (if_neg c10).symm.trans hf
        refine lv_iload hx hb dX9_tour_73 (lv_at hl 4 rfl) ?_
        refine lv_iload_n hx hb dX9_tour_75 rfl (lv_at hl 1 rfl) ?_
        refine lv_iload hx hb dX9_tour_76 (lv_at hl 5 rfl) ?_
        refine lv_ishr hx hb dX9_tour_78 ?_
        refine lv_iconst (v := 1) hx hb dX9_tour_79 (by decide) ?_
        refine lv_iand hx hb dX9_tour_80 ?_
        refine lv_iadd hx hb dX9_tour_81 ?_
        refine lv_topi (fun x16 ex16 => ?_)
        have hf := nm_at ex16 hf
        refine lv_istore (lv' := [(4, .int x16), (0, .ref (h 0)), (1, .int l1), (2, .int l2), (3, .int l3), (5, .int l5)]) hx hb dX9_tour_82 hl (by decide) rfl (fun ls hl => ?_)
        obtain ⟨x17, ex17, hf⟩ := nm_some hf
        refine lv_iinc (v := x17) (lv' := [(5, .int x17), (4, .int x16), (0, .ref (h 0)), (1, .int l1), (2, .int l2), (3, .int l3)]) hx hb dX9_tour_84 hl (k := 5) rfl (by rw [ex17]; rfl) (by decide) rfl (fun ls hl => ?_)
        refine lv_goto (tgt := 66) hx hb dX9_tour_87 (by decide) ?_
        exact ih _ _ _ _ _ _ _ _ _ hf (lv_sub hl [2, 3, 4, 5, 1, 0] rfl) hP hD hS
  unfold FM_tour at hf
  refine lv_aload_n hx hb dX9_tour_0 rfl (lv_at hl 0 rfl) ?_
  refine lv_iconst (v := 0) hx hb dX9_tour_1 (by decide) ?_
  refine Mp_0 S hin hK hP hD hS f47 dX9_tour_2 (fun H locs hP hD hS => ?_)
  obtain ⟨σ1, eσ1, hf⟩ := nm_some hf
  rw [← eσ1] at hP hD
  refine lv_aload_n hx hb dX9_tour_5 rfl (lv_at hl 0 rfl) ?_
  refine Mg_7 S hin hK hP f179 dX9_tour_6 ?_
  refine lv_if_ne (tgt := 15) hx hb dX9_tour_9 (by decide) (fun c2 => ?_) (fun c2 => ?_)
  · have hf := (if_neg c2).symm.trans hf
    refine lv_iload_n hx hb dX9_tour_15 rfl (lv_at hl 1 rfl) ?_
    refine lv_i2l hx hb dX9_tour_16 rfl ?_
    refine lv_lconst (v := 1) hx hb dX9_tour_17 (by decide) ?_
    refine lv_iconst (v := 1) hx hb dX9_tour_18 (by decide) ?_
    refine lv_aload_n hx hb dX9_tour_19 rfl (lv_at hl 0 rfl) ?_
    refine Mg_5 S hin hK hP f19 dX9_tour_20 ?_
    refine lv_iconst (v := 2) hx hb dX9_tour_23 (by decide) ?_
    obtain ⟨g3, hf⟩ := gd_some hf
    refine Ml_5 S hK hP g3 dX9_tour_24 ?_
    refine lv_ishl hx hb dX9_tour_25 ?_
    refine lv_iconst (v := 1) hx hb dX9_tour_26 (by decide) ?_
    refine lv_isub hx hb dX9_tour_27 ?_
    refine lv_i2l hx hb dX9_tour_28 rfl ?_
    obtain ⟨r4, hr4, hf⟩ := bi_some hf
    refine kc_s (n := 3) S hRf hRl hK hA hP hD hS hl [.long (Int32.toInt64 a1), .long 1, .long (Int32.toInt64 ((1 <<< ((σ1.2 5 (Int32.toNatClampNeg 2)) &&& 31)) - 1))] [] (kM_in l D _ _ (Int32.toInt64 a1) 1 (Int32.toInt64 ((1 <<< ((σ1.2 5 (Int32.toNatClampNeg 2)) &&& 31)) - 1)) r4 hr4) gX9_tour_X9_in rfl (by decide +kernel) rfl ⟨by decide, by decide⟩ rfl (Nat.le_of_ble_eq_true rfl) dX9_tour_29 (fun H locs hP hD hS => ?_)
    refine W.eq (g2 := F0 m 32 ls [.int r4]) rfl ?_
    refine lv_if_eq (tgt := 41) hx hb dX9_tour_32 (by decide) (fun c5 => ?_) (fun c5 => ?_)
    · have hf := (if_pos c5).symm.trans hf
      refine lv_ldc (v := (-1000001)) hx hb hown c67 dX9_tour_41 ?_
      exact hre _ _ _ _ _ _ hf hP hD hS dX9_tour_43
    · have hf := (if_neg c5).symm.trans hf
      refine lv_iload_n hx hb dX9_tour_35 rfl (lv_at hl 2 rfl) ?_
      refine lv_bipush (v := (-2)) hx hb dX9_tour_36 (by decide) ?_
      refine lv_icmp_ge (tgt := 44) hx hb dX9_tour_38 (by decide) (fun c6 => ?_) (fun c6 => ?_)
      · have hf := (if_pos c6).symm.trans hf
        refine lv_aload_n hx hb dX9_tour_44 rfl (lv_at hl 0 rfl) ?_
        refine lv_iload_n hx hb dX9_tour_45 rfl (lv_at hl 1 rfl) ?_
        obtain ⟨r7, σ8, hr7, hf⟩ := bd2_some hf
        refine kc_v (ci := 8) (q0 := 0) (n := 1) S hRf hRl hK hA hP hD hS hl [.int a1] [] (kM_layTour l D h cI cZ σ1 a1 r7 σ8 hr7) gX9_tour_X9_layTour rfl (by decide +kernel) rfl ⟨by decide, by decide⟩ rfl rfl rfl rfl (Nat.le_of_ble_eq_true rfl) dX9_tour_46 (fun H locs hP hD hS => ?_)
        refine W.eq (g2 := F0 m 49 ls [.int r7]) rfl ?_
        refine lv_istore_n (lv' := [(3, .int r7), (0, .ref (h 0)), (1, .int a1), (2, .int a2)]) hx hb dX9_tour_49 rfl hl (by decide) rfl (fun ls hl => ?_)
        refine lv_iload_n hx hb dX9_tour_50 rfl (lv_at hl 0 rfl) ?_
        refine lv_sipush (v := 10000) hx hb dX9_tour_51 (by decide) ?_
        refine lv_icmp_ne (tgt := 60) hx hb dX9_tour_54 (by decide) (fun c9 => ?_) (fun c9 => ?_)
        · have hf := (if_neg c9).symm.trans hf
          refine lv_iconst (v := 0) hx hb dX9_tour_60 (by decide) ?_
          refine lv_istore (lv' := [(4, .int 0), (3, .int r7), (0, .ref (h 0)), (1, .int a1), (2, .int a2)]) hx hb dX9_tour_61 hl (by decide) rfl (fun ls hl => ?_)
          refine lv_iconst (v := 0) hx hb dX9_tour_63 (by decide) ?_
          refine lv_istore (lv' := [(5, .int 0), (4, .int 0), (3, .int r7), (0, .ref (h 0)), (1, .int a1), (2, .int a2)]) hx hb dX9_tour_64 hl (by decide) rfl (fun ls hl => ?_)
          exact b66 fuelN _ _ _ _ _ _ _ _ _ hf (lv_sub hl [3, 4, 5, 2, 1, 0] rfl) hP hD hS
        · have hf := (if_pos c9).symm.trans hf
          refine lv_ldc (v := (-1000000)) hx hb hown c83 dX9_tour_57 ?_
          exact hre _ _ _ _ _ _ hf hP hD hS dX9_tour_59
      · have hf := (if_neg c6).symm.trans hf
        refine lv_ldc (v := (-1000001)) hx hb hown c67 dX9_tour_41 ?_
        exact hre _ _ _ _ _ _ hf hP hD hS dX9_tour_43
  · have hf := (if_pos c2).symm.trans hf
    refine lv_ldc (v := (-1000002)) hx hb hown c210 dX9_tour_12 ?_
    exact hre _ _ _ _ _ _ hf hP hD hS dX9_tour_14
def FM_lateWith_86 (ag4 : MS → Int32 → Int32 → Int32 → Option Int32) (σ : MS) (l1 : Int32) (l3 : Int32) (s0 : Int32) (s1 : Int32) : Option Int32 :=
  nm (s1 + s0) fun (x13 : Int32) => nm (l3 + 1) fun (x14 : Int32) => ag4 σ l1 x13 x14
def FM_lateWith_85 (ag4 : MS → Int32 → Int32 → Int32 → Option Int32) (σ : MS) (l1 : Int32) (l3 : Int32) (s0 : Int32) : Option Int32 :=
  FM_lateWith_86 ag4 σ l1 l3 0 s0
def FM_lateWith_63 (ag4 : MS → Int32 → Int32 → Int32 → Option Int32) (σ : MS) (l1 : Int32) (l2 : Int32) (l3 : Int32) (s0 : Int32) (s1 : Int32) : Option Int32 :=
  Option.bind (FM_slackBy σ s1 s0) fun (r10 : Int32) => if r10 = (-1000000) then (FM_lateWith_85 ag4 σ l1 l3 l2) else (if 0 ≤ r10 then (FM_lateWith_85 ag4 σ l1 l3 l2) else (FM_lateWith_86 ag4 σ l1 l3 1 l2))
def FM_lateWith_61 (ag4 : MS → Int32 → Int32 → Int32 → Option Int32) (σ : MS) (l1 : Int32) (l2 : Int32) (l3 : Int32) (l4 : Int32) (s0 : Int32) : Option Int32 :=
  FM_lateWith_63 ag4 σ l1 l2 l3 l4 s0
def FM_lateWith_4  : Nat → MS → Int32 → Int32 → Int32 → Option Int32
  | 0, _, _, _, _ => none
  | n + 1, σ, l1, l2, l3 => gd (¬ ((3 : Int32) < 0 ∨ 147 ≤ Int32.toNatClampNeg 3)) (if (σ.2 5 (Int32.toNatClampNeg 3)) ≤ l3 then (some l2) else (Option.bind (FM_townOf σ l3) fun (r3 : Int32) => Option.bind (FM_farOf σ r3 0) fun (r4 : Int32) => Option.bind (FM_townOf σ l3) fun (r5 : Int32) => Option.bind (FM_farOf σ r5 l1) fun (r6 : Int32) => Option.bind (FM_of σ l3 3) fun (r7 : Int32) => if r7 = 0 then (if r4 ≤ r6 then (FM_lateWith_61 (FM_lateWith_4 n) σ l1 l2 l3 r4 l3) else (FM_lateWith_63 (FM_lateWith_4 n) σ l1 l2 l3 r6 l3)) else (FM_lateWith_61 (FM_lateWith_4 n) σ l1 l2 l3 r4 l3)))
def FM_lateWith (σ : MS) (a1 : Int32) : Option Int32 :=
  FM_lateWith_4 fuelN σ a1 0 0
set_option maxHeartbeats 4000000 in
set_option maxRecDepth 100000 in
theorem kM_lateWith (l : Launch) (D : va_G) (h : Nat → Nat) (cI cZ : ClassId) (σ : MS) (a1 : Int32) (r : Int32) (hf : FM_lateWith σ a1 = some r) : KK l D [(cI, .int), (cZ, .boolean)] yX9_lateWith wsX9_lateWith 3 67 [.ref (h 0), .int a1] (mw h cI cZ σ) (some (.int r)) (mw h cI cZ σ) := by
  refine KK.ofI (own := RX9) (cc := cX9_lateWith) (maxL := 7) (by decide) rfl rfl (Nat.le_of_ble_eq_true rfl) ?_
  intro p e s m args below meth c R Q A ls S hRf hRl hK hA hP hD hS hl hret
  obtain ⟨hx, hb, hml, hown, hts⟩ := id S
  have hin : ∀ w ∈ wsX90, w ∈ wsX9_lateWith := fun w hw => List.mem_cons_of_mem _ (List.mem_append_right _ hw)
  have f19 := hts (.fieldLink RX9 19 "PenniesAwayModel" "realm" "[I") (by decide +kernel)
  have c83 := hts (.constant RX9 83 (-1000000)) (by decide +kernel)
  have hl : lv_has ls 7 [(0, .ref (h 0)), (1, .int a1)] := hl
  have hre : ∀ (x : Int32) (pc : Nat) (ls : Array Slot) (H : Heap) (locs : List Loc), (some x : Option Int32) = some r → va_P D vwCl (mw h cI cZ σ) H → va_D A (mw h cI cZ σ) → va_S A s.heap H locs → decode cX9_lateWith pc = .ok (.ireturn, 1) → W p l e R s m args below meth c H locs 0 0 Q (F0 m pc ls [.int x]) := by intro x pc ls H locs he; cases he; exact hret pc ls H locs
  have b86 : ∀ (ag4 : MS → Int32 → Int32 → Int32 → Option Int32) (hag4 : ∀ (l1 : Int32) (l2 : Int32) (l3 : Int32) (ls : Array Slot) (H : Heap) (locs : List Loc), ag4 σ l1 l2 l3 = some r → lv_has ls 7 [(0, .ref (h 0)), (1, .int l1), (2, .int l2), (3, .int l3)] → va_P D vwCl (mw h cI cZ σ) H → va_D A (mw h cI cZ σ) → va_S A s.heap H locs → W p l e R s m args below meth c H locs 0 0 Q (F0 m 4 ls [])), ∀ (l1 : Int32) (l3 : Int32) (s0 : Int32) (s1 : Int32) (ls : Array Slot) (H : Heap) (locs : List Loc), FM_lateWith_86 ag4 σ l1 l3 s0 s1 = some r → lv_has ls 7 [(0, .ref (h 0)), (1, .int l1), (3, .int l3)] → va_P D vwCl (mw h cI cZ σ) H → va_D A (mw h cI cZ σ) → va_S A s.heap H locs → W p l e R s m args below meth c H locs 0 0 Q (F0 m 86 ls [.int s0, .int s1]) := by
    intro ag4 hag4 l1 l3 s0 s1 ls H locs hf hl hP hD hS
    unfold FM_lateWith_86 at hf
    refine lv_iadd hx hb dX9_lateWith_86 ?_
    refine lv_topi (fun x13 ex13 => ?_)
    have hf := nm_at ex13 hf
    refine lv_istore_n (lv' := [(2, .int x13), (0, .ref (h 0)), (1, .int l1), (3, .int l3)]) hx hb dX9_lateWith_87 rfl hl (by decide) rfl (fun ls hl => ?_)
    obtain ⟨x14, ex14, hf⟩ := nm_some hf
    refine lv_iinc (v := x14) (lv' := [(3, .int x14), (2, .int x13), (0, .ref (h 0)), (1, .int l1)]) hx hb dX9_lateWith_88 hl (k := 3) rfl (by rw [ex14]; rfl) (by decide) rfl (fun ls hl => ?_)
    refine lv_goto (tgt := 4) hx hb dX9_lateWith_91 (by decide) ?_
    exact hag4 _ _ _ _ _ _ hf (lv_sub hl [2, 3, 1, 0] rfl) hP hD hS
  have b85 : ∀ (ag4 : MS → Int32 → Int32 → Int32 → Option Int32) (hag4 : ∀ (l1 : Int32) (l2 : Int32) (l3 : Int32) (ls : Array Slot) (H : Heap) (locs : List Loc), ag4 σ l1 l2 l3 = some r → lv_has ls 7 [(0, .ref (h 0)), (1, .int l1), (2, .int l2), (3, .int l3)] → va_P D vwCl (mw h cI cZ σ) H → va_D A (mw h cI cZ σ) → va_S A s.heap H locs → W p l e R s m args below meth c H locs 0 0 Q (F0 m 4 ls [])), ∀ (l1 : Int32) (l3 : Int32) (s0 : Int32) (ls : Array Slot) (H : Heap) (locs : List Loc), FM_lateWith_85 ag4 σ l1 l3 s0 = some r → lv_has ls 7 [(0, .ref (h 0)), (1, .int l1), (3, .int l3)] → va_P D vwCl (mw h cI cZ σ) H → va_D A (mw h cI cZ σ) → va_S A s.heap H locs → W p l e R s m args below meth c H locs 0 0 Q (F0 m 85 ls [.int s0]) := by
    intro ag4 hag4 l1 l3 s0 ls H locs hf hl hP hD hS
    unfold FM_lateWith_85 at hf
    refine lv_iconst (v := 0) hx hb dX9_lateWith_85 (by decide) ?_
    exact b86 ag4 hag4 _ _ _ _ _ _ _ hf (lv_sub hl [0, 1, 2] rfl) hP hD hS
  have b63 : ∀ (ag4 : MS → Int32 → Int32 → Int32 → Option Int32) (hag4 : ∀ (l1 : Int32) (l2 : Int32) (l3 : Int32) (ls : Array Slot) (H : Heap) (locs : List Loc), ag4 σ l1 l2 l3 = some r → lv_has ls 7 [(0, .ref (h 0)), (1, .int l1), (2, .int l2), (3, .int l3)] → va_P D vwCl (mw h cI cZ σ) H → va_D A (mw h cI cZ σ) → va_S A s.heap H locs → W p l e R s m args below meth c H locs 0 0 Q (F0 m 4 ls [])), ∀ (l1 : Int32) (l2 : Int32) (l3 : Int32) (s0 : Int32) (s1 : Int32) (ls : Array Slot) (H : Heap) (locs : List Loc), FM_lateWith_63 ag4 σ l1 l2 l3 s0 s1 = some r → lv_has ls 7 [(0, .ref (h 0)), (1, .int l1), (2, .int l2), (3, .int l3)] → va_P D vwCl (mw h cI cZ σ) H → va_D A (mw h cI cZ σ) → va_S A s.heap H locs → W p l e R s m args below meth c H locs 0 0 Q (F0 m 63 ls [.int s0, .int s1, .ref (h 0)]) := by
    intro ag4 hag4 l1 l2 l3 s0 s1 ls H locs hf hl hP hD hS
    unfold FM_lateWith_63 at hf
    obtain ⟨r10, hr10, hf⟩ := bi_some hf
    refine kc_v (ci := 8) (q0 := 0) (n := 2) S hRf hRl hK hA hP hD hS hl [.int s1, .int s0] [] (kM_slackBy l D h cI cZ σ s1 s0 r10 hr10) gX9_lateWith_X9_slackBy rfl (by decide +kernel) rfl ⟨by decide, by decide⟩ rfl rfl rfl rfl (Nat.le_of_ble_eq_true rfl) dX9_lateWith_63 (fun H locs hP hD hS => ?_)
    refine W.eq (g2 := F0 m 66 ls [.int r10]) rfl ?_
    refine lv_istore (lv' := [(6, .int r10), (0, .ref (h 0)), (1, .int l1), (2, .int l2), (3, .int l3)]) hx hb dX9_lateWith_66 hl (by decide) rfl (fun ls hl => ?_)
    refine lv_iload_n hx hb dX9_lateWith_68 rfl (lv_at hl 3 rfl) ?_
    refine lv_iload hx hb dX9_lateWith_69 (lv_at hl 0 rfl) ?_
    refine lv_ldc (v := (-1000000)) hx hb hown c83 dX9_lateWith_71 ?_
    refine lv_icmp_eq (tgt := 85) hx hb dX9_lateWith_73 (by decide) (fun c11 => ?_) (fun c11 => ?_)
    · have hf := (if_pos c11).symm.trans hf
      exact b85 ag4 hag4 _ _ _ _ _ _ hf (lv_sub hl [1, 2, 4] rfl) hP hD hS
    · have hf := (if_neg c11).symm.trans hf
      refine lv_iload hx hb dX9_lateWith_76 (lv_at hl 0 rfl) ?_
      refine lv_if_ge (tgt := 85) hx hb dX9_lateWith_78 (by decide) (fun c12 => ?_) (fun c12 => ?_)
      · have hf := (if_pos c12).symm.trans hf
        exact b85 ag4 hag4 _ _ _ _ _ _ hf (lv_sub hl [1, 2, 4] rfl) hP hD hS
      · have hf := (if_neg c12).symm.trans hf
        refine lv_iconst (v := 1) hx hb dX9_lateWith_81 (by decide) ?_
        refine lv_goto (tgt := 86) hx hb dX9_lateWith_82 (by decide) ?_
        exact b86 ag4 hag4 _ _ _ _ _ _ _ hf (lv_sub hl [1, 2, 4] rfl) hP hD hS
  have b61 : ∀ (ag4 : MS → Int32 → Int32 → Int32 → Option Int32) (hag4 : ∀ (l1 : Int32) (l2 : Int32) (l3 : Int32) (ls : Array Slot) (H : Heap) (locs : List Loc), ag4 σ l1 l2 l3 = some r → lv_has ls 7 [(0, .ref (h 0)), (1, .int l1), (2, .int l2), (3, .int l3)] → va_P D vwCl (mw h cI cZ σ) H → va_D A (mw h cI cZ σ) → va_S A s.heap H locs → W p l e R s m args below meth c H locs 0 0 Q (F0 m 4 ls [])), ∀ (l1 : Int32) (l2 : Int32) (l3 : Int32) (l4 : Int32) (s0 : Int32) (ls : Array Slot) (H : Heap) (locs : List Loc), FM_lateWith_61 ag4 σ l1 l2 l3 l4 s0 = some r → lv_has ls 7 [(0, .ref (h 0)), (1, .int l1), (2, .int l2), (3, .int l3), (4, .int l4)] → va_P D vwCl (mw h cI cZ σ) H → va_D A (mw h cI cZ σ) → va_S A s.heap H locs → W p l e R s m args below meth c H locs 0 0 Q (F0 m 61 ls [.int s0, .ref (h 0)]) := by
    intro ag4 hag4 l1 l2 l3 l4 s0 ls H locs hf hl hP hD hS
    unfold FM_lateWith_61 at hf
    refine lv_iload hx hb dX9_lateWith_61 (lv_at hl 4 rfl) ?_
    exact b63 ag4 hag4 _ _ _ _ _ _ _ _ hf (lv_sub hl [0, 1, 2, 3] rfl) hP hD hS
  have b4 : ∀ (n : Nat), ∀ (l1 : Int32) (l2 : Int32) (l3 : Int32) (ls : Array Slot) (H : Heap) (locs : List Loc), FM_lateWith_4 n σ l1 l2 l3 = some r → lv_has ls 7 [(0, .ref (h 0)), (1, .int l1), (2, .int l2), (3, .int l3)] → va_P D vwCl (mw h cI cZ σ) H → va_D A (mw h cI cZ σ) → va_S A s.heap H locs → W p l e R s m args below meth c H locs 0 0 Q (F0 m 4 ls []) := by
    intro n
    induction n with
    | zero => intro l1 l2 l3 ls H locs hf; exact absurd hf (by simp [FM_lateWith_4])
    | succ n ih =>
      intro l1 l2 l3 ls H locs hf hl hP hD hS
      rw [FM_lateWith_4] at hf
      refine lv_iload_n hx hb dX9_lateWith_4 rfl (lv_at hl 3 rfl) ?_
      refine lv_aload_n hx hb dX9_lateWith_5 rfl (lv_at hl 0 rfl) ?_
      refine Mg_5 S hin hK hP f19 dX9_lateWith_6 ?_
      refine lv_iconst (v := 3) hx hb dX9_lateWith_9 (by decide) ?_
      obtain ⟨g1, hf⟩ := gd_some hf
      refine Ml_5 S hK hP g1 dX9_lateWith_10 ?_
      refine lv_icmp_ge (tgt := 94) hx hb dX9_lateWith_11 (by decide) (fun c2 => ?_) (fun c2 => ?_)
      · have hf := (if_pos c2).symm.trans hf
        refine lv_iload_n hx hb dX9_lateWith_94 rfl (lv_at hl 2 rfl) ?_
        exact hre _ _ _ _ _ hf hP hD hS dX9_lateWith_95
      · have hf := (if_neg c2).symm.trans hf
        refine lv_aload_n hx hb dX9_lateWith_14 rfl (lv_at hl 0 rfl) ?_
        refine lv_aload_n hx hb dX9_lateWith_15 rfl (lv_at hl 0 rfl) ?_
        refine lv_iload_n hx hb dX9_lateWith_16 rfl (lv_at hl 3 rfl) ?_
        obtain ⟨r3, hr3, hf⟩ := bi_some hf
        refine kc_v (ci := 8) (q0 := 0) (n := 1) S hRf hRl hK hA hP hD hS hl [.int l3] [.ref (h 0)] (kM_townOf l D h cI cZ σ l3 r3 hr3) gX9_lateWith_X9_townOf rfl (by decide +kernel) rfl ⟨by decide, by decide⟩ rfl rfl rfl rfl (Nat.le_of_ble_eq_true rfl) dX9_lateWith_17 (fun H locs hP hD hS => ?_)
        refine W.eq (g2 := F0 m 20 ls [.int r3, .ref (h 0)]) rfl ?_
        refine lv_iconst (v := 0) hx hb dX9_lateWith_20 (by decide) ?_
        obtain ⟨r4, hr4, hf⟩ := bi_some hf
        refine kc_v (ci := 8) (q0 := 0) (n := 2) S hRf hRl hK hA hP hD hS hl [.int r3, .int 0] [] (kM_farOf l D h cI cZ σ r3 0 r4 hr4) gX9_lateWith_X9_farOf rfl (by decide +kernel) rfl ⟨by decide, by decide⟩ rfl rfl rfl rfl (Nat.le_of_ble_eq_true rfl) dX9_lateWith_21 (fun H locs hP hD hS => ?_)
        refine W.eq (g2 := F0 m 24 ls [.int r4]) rfl ?_
        refine lv_istore (lv' := [(4, .int r4), (0, .ref (h 0)), (1, .int l1), (2, .int l2), (3, .int l3)]) hx hb dX9_lateWith_24 hl (by decide) rfl (fun ls hl => ?_)
        refine lv_aload_n hx hb dX9_lateWith_26 rfl (lv_at hl 1 rfl) ?_
        refine lv_aload_n hx hb dX9_lateWith_27 rfl (lv_at hl 1 rfl) ?_
        refine lv_iload_n hx hb dX9_lateWith_28 rfl (lv_at hl 4 rfl) ?_
        obtain ⟨r5, hr5, hf⟩ := bi_some hf
        refine kc_v (ci := 8) (q0 := 0) (n := 1) S hRf hRl hK hA hP hD hS hl [.int l3] [.ref (h 0)] (kM_townOf l D h cI cZ σ l3 r5 hr5) gX9_lateWith_X9_townOf rfl (by decide +kernel) rfl ⟨by decide, by decide⟩ rfl rfl rfl rfl (Nat.le_of_ble_eq_true rfl) dX9_lateWith_29 (fun H locs hP hD hS => ?_)
        refine W.eq (g2 := F0 m 32 ls [.int r5, .ref (h 0)]) rfl ?_
        refine lv_iload_n hx hb dX9_lateWith_32 rfl (lv_at hl 2 rfl) ?_
        obtain ⟨r6, hr6, hf⟩ := bi_some hf
        refine kc_v (ci := 8) (q0 := 0) (n := 2) S hRf hRl hK hA hP hD hS hl [.int r5, .int l1] [] (kM_farOf l D h cI cZ σ r5 l1 r6 hr6) gX9_lateWith_X9_farOf rfl (by decide +kernel) rfl ⟨by decide, by decide⟩ rfl rfl rfl rfl (Nat.le_of_ble_eq_true rfl) dX9_lateWith_33 (fun H locs hP hD hS => ?_)
        refine W.eq (g2 := F0 m 36 ls [.int r6]) rfl ?_
        refine lv_istore (lv' := [(5, .int r6), (4, .int r4), (0, .ref (h 0)), (1, .int l1), (2, .int l2), (3, .int l3)]) hx hb dX9_lateWith_36 hl (by decide) rfl (fun ls hl => ?_)
        refine lv_aload_n hx hb dX9_lateWith_38 rfl (lv_at hl 2 rfl) ?_
        refine lv_iload_n hx hb dX9_lateWith_39 rfl (lv_at hl 5 rfl) ?_
        refine lv_aload_n hx hb dX9_lateWith_40 rfl (lv_at hl 2 rfl) ?_
        refine lv_iload_n hx hb dX9_lateWith_41 rfl (lv_at hl 5 rfl) ?_
        refine lv_iconst (v := 3) hx hb dX9_lateWith_42 (by decide) ?_
        obtain ⟨r7, hr7, hf⟩ := bi_some hf
        refine kc_v (ci := 8) (q0 := 0) (n := 2) S hRf hRl hK hA hP hD hS hl [.int l3, .int 3] [.int l3, .ref (h 0)] (kM_of l D h cI cZ σ l3 3 r7 hr7) gX9_lateWith_X9_of rfl (by decide +kernel) rfl ⟨by decide, by decide⟩ rfl rfl rfl rfl (Nat.le_of_ble_eq_true rfl) dX9_lateWith_43 (fun H locs hP hD hS => ?_)
        refine W.eq (g2 := F0 m 46 ls [.int r7, .int l3, .ref (h 0)]) rfl ?_
        refine lv_if_ne (tgt := 61) hx hb dX9_lateWith_46 (by decide) (fun c8 => ?_) (fun c8 => ?_)
        · have hf := (if_neg c8).symm.trans hf
          exact b61 (FM_lateWith_4 n) ih _ _ _ _ _ _ _ _ hf (lv_sub hl [2, 3, 4, 5, 1] rfl) hP hD hS
        · have hf := (if_pos c8).symm.trans hf
          refine lv_iload hx hb dX9_lateWith_49 (lv_at hl 0 rfl) ?_
          refine lv_iload hx hb dX9_lateWith_51 (lv_at hl 1 rfl) ?_
          refine lv_icmp_ge (tgt := 61) hx hb dX9_lateWith_53 (by decide) (fun c9 => ?_) (fun c9 => ?_)
          · have hf := (if_pos c9).symm.trans hf
            exact b61 (FM_lateWith_4 n) ih _ _ _ _ _ _ _ _ hf (lv_sub hl [2, 3, 4, 5, 1] rfl) hP hD hS
          · have hf := (if_neg c9).symm.trans hf
            refine lv_iload hx hb dX9_lateWith_56 (lv_at hl 0 rfl) ?_
            refine lv_goto (tgt := 63) hx hb dX9_lateWith_58 (by decide) ?_
            exact b63 (FM_lateWith_4 n) ih _ _ _ _ _ _ _ _ hf (lv_sub hl [2, 3, 4, 5] rfl) hP hD hS
  unfold FM_lateWith at hf
  refine lv_iconst (v := 0) hx hb dX9_lateWith_0 (by decide) ?_
  refine lv_istore_n (lv' := [(2, .int 0), (0, .ref (h 0)), (1, .int a1)]) hx hb dX9_lateWith_1 rfl hl (by decide) rfl (fun ls hl => ?_)
  refine lv_iconst (v := 0) hx hb dX9_lateWith_2 (by decide) ?_
  refine lv_istore_n (lv' := [(3, .int 0), (2, .int 0), (0, .ref (h 0)), (1, .int a1)]) hx hb dX9_lateWith_3 rfl hl (by decide) rfl (fun ls hl => ?_)
  exact b4 fuelN _ _ _ _ _ _ hf (lv_sub hl [2, 3, 1, 0] rfl) hP hD hS
def FM_mint_56 (ag32 : MS → Int32 → Int32 → Int32 → Option (Int32 × MS)) (σ : MS) (l1 : Int32) (l3 : Int32) (s0 : Int32) : Option (Int32 × MS) :=
  nm (l3 + 1) fun (x11 : Int32) => ag32 σ l1 s0 x11
def FM_mint_32  : Nat → MS → Int32 → Int32 → Int32 → Option (Int32 × MS)
  | 0, _, _, _, _ => none
  | n + 1, σ, l1, l2, l3 => if 8 ≤ l3 then (if l1 = 0 then (some (l2, σ)) else (Option.bind (FM_lateWith σ l2) fun (r7 : Int32) => some (r7, σ))) else (Option.bind (FM_lateWith σ l3) fun (r8 : Int32) => Option.bind (FM_lateWith σ l2) fun (r9 : Int32) => if r9 ≤ r8 then (FM_mint_56 (FM_mint_32 n) σ l1 l3 l2) else (FM_mint_56 (FM_mint_32 n) σ l1 l3 l3))
def FM_mint (σ : MS) (a1 : Int32) : Option (Int32 × MS) :=
  nm (setF σ 0 0) fun (σ1 : MS) => if (σ1.1 7) = 0 then (some ((-1000002), σ1)) else (Option.bind (FM_in (Int32.toInt64 a1) 0 1) fun (r3 : Int32) => if r3 = 0 then (some ((-1000001), σ1)) else (FM_mint_32 fuelN σ1 a1 1 2))
set_option maxHeartbeats 4000000 in
set_option maxRecDepth 100000 in
theorem kM_mint (l : Launch) (D : va_G) (h : Nat → Nat) (cI cZ : ClassId) (σ : MS) (a1 : Int32) (r : Int32) (σ' : MS) (hf : FM_mint σ a1 = some (r, σ')) : KK l D [(cI, .int), (cZ, .boolean)] yX9_mint wsX9_mint 4 93 [.ref (h 0), .int a1] (mw h cI cZ σ) (some (.int r)) (mw h cI cZ σ') := by
  refine KK.ofI (own := RX9) (cc := cX9_mint) (maxL := 4) (by decide) rfl rfl (Nat.le_of_ble_eq_true rfl) ?_
  intro p e s m args below meth c R Q A ls S hRf hRl hK hA hP hD hS hl hret
  obtain ⟨hx, hb, hml, hown, hts⟩ := id S
  have hin : ∀ w ∈ wsX90, w ∈ wsX9_mint := fun w hw => List.mem_cons_of_mem _ (List.mem_append_right _ hw)
  have f47 := hts (.fieldLink RX9 47 "PenniesAwayModel" "thrown" "I") (by decide +kernel)
  have f179 := hts (.fieldLink RX9 179 "PenniesAwayModel" "isThere" "Z") (by decide +kernel)
  have c67 := hts (.constant RX9 67 (-1000001)) (by decide +kernel)
  have c210 := hts (.constant RX9 210 (-1000002)) (by decide +kernel)
  have hl : lv_has ls 4 [(0, .ref (h 0)), (1, .int a1)] := hl
  have hre : ∀ (x : Int32) (σx : MS) (pc : Nat) (ls : Array Slot) (H : Heap) (locs : List Loc), (some (x, σx) : Option (Int32 × MS)) = some (r, σ') → va_P D vwCl (mw h cI cZ σx) H → va_D A (mw h cI cZ σx) → va_S A s.heap H locs → decode cX9_mint pc = .ok (.ireturn, 1) → W p l e R s m args below meth c H locs 0 0 Q (F0 m pc ls [.int x]) := by intro x σx pc ls H locs he; cases he; exact hret pc ls H locs
  have b56 : ∀ (ag32 : MS → Int32 → Int32 → Int32 → Option (Int32 × MS)) (hag32 : ∀ (σ : MS) (l1 : Int32) (l2 : Int32) (l3 : Int32) (ls : Array Slot) (H : Heap) (locs : List Loc), ag32 σ l1 l2 l3 = some (r, σ') → lv_has ls 4 [(0, .ref (h 0)), (1, .int l1), (2, .int l2), (3, .int l3)] → va_P D vwCl (mw h cI cZ σ) H → va_D A (mw h cI cZ σ) → va_S A s.heap H locs → W p l e R s m args below meth c H locs 0 0 Q (F0 m 32 ls [])), ∀ (σ : MS) (l1 : Int32) (l3 : Int32) (s0 : Int32) (ls : Array Slot) (H : Heap) (locs : List Loc), FM_mint_56 ag32 σ l1 l3 s0 = some (r, σ') → lv_has ls 4 [(0, .ref (h 0)), (1, .int l1), (3, .int l3)] → va_P D vwCl (mw h cI cZ σ) H → va_D A (mw h cI cZ σ) → va_S A s.heap H locs → W p l e R s m args below meth c H locs 0 0 Q (F0 m 56 ls [.int s0]) := by
    intro ag32 hag32 σ l1 l3 s0 ls H locs hf hl hP hD hS
    unfold FM_mint_56 at hf
    refine lv_istore_n (lv' := [(2, .int s0), (0, .ref (h 0)), (1, .int l1), (3, .int l3)]) hx hb dX9_mint_56 rfl hl (by decide) rfl (fun ls hl => ?_)
    obtain ⟨x11, ex11, hf⟩ := nm_some hf
    refine lv_iinc (v := x11) (lv' := [(3, .int x11), (2, .int s0), (0, .ref (h 0)), (1, .int l1)]) hx hb dX9_mint_57 hl (k := 3) rfl (by rw [ex11]; rfl) (by decide) rfl (fun ls hl => ?_)
    refine lv_goto (tgt := 32) hx hb dX9_mint_60 (by decide) ?_
    exact hag32 _ _ _ _ _ _ _ hf (lv_sub hl [2, 3, 1, 0] rfl) hP hD hS
  have b32 : ∀ (n : Nat), ∀ (σ : MS) (l1 : Int32) (l2 : Int32) (l3 : Int32) (ls : Array Slot) (H : Heap) (locs : List Loc), FM_mint_32 n σ l1 l2 l3 = some (r, σ') → lv_has ls 4 [(0, .ref (h 0)), (1, .int l1), (2, .int l2), (3, .int l3)] → va_P D vwCl (mw h cI cZ σ) H → va_D A (mw h cI cZ σ) → va_S A s.heap H locs → W p l e R s m args below meth c H locs 0 0 Q (F0 m 32 ls []) := by
    intro n
    induction n with
    | zero => intro σ l1 l2 l3 ls H locs hf; exact absurd hf (by simp [FM_mint_32])
    | succ n ih =>
      intro σ l1 l2 l3 ls H locs hf hl hP hD hS
      rw [FM_mint_32] at hf
      refine lv_iload_n hx hb dX9_mint_32 rfl (lv_at hl 3 rfl) ?_
      refine lv_bipush (v := 8) hx hb dX9_mint_33 (by decide) ?_
      refine lv_icmp_ge (tgt := 63) hx hb dX9_mint_35 (by decide) (fun c5 => ?_) (fun c5 => ?_)
      · have hf := (if_pos c5).symm.trans hf
        refine lv_iload_n hx hb dX9_mint_63 rfl (lv_at hl 1 rfl) ?_
        refine lv_if_ne (tgt := 71) hx hb dX9_mint_64 (by decide) (fun c6 => ?_) (fun c6 => ?_)
        · have hf := (if_neg c6).symm.trans hf
          refine lv_aload_n hx hb dX9_mint_71 rfl (lv_at hl 0 rfl) ?_
          refine lv_iload_n hx hb dX9_mint_72 rfl (lv_at hl 2 rfl) ?_
          obtain ⟨r7, hr7, hf⟩ := bi_some hf
          refine kc_v (ci := 8) (q0 := 0) (n := 1) S hRf hRl hK hA hP hD hS hl [.int l2] [] (kM_lateWith l D h cI cZ σ l2 r7 hr7) gX9_mint_X9_lateWith rfl (by decide +kernel) rfl ⟨by decide, by decide⟩ rfl rfl rfl rfl (Nat.le_of_ble_eq_true rfl) dX9_mint_73 (fun H locs hP hD hS => ?_)
          refine W.eq (g2 := F0 m 76 ls [.int r7]) rfl ?_
          exact hre _ _ _ _ _ _ hf hP hD hS dX9_mint_76
        · have hf := (if_pos c6).symm.trans hf
          refine lv_iload_n hx hb dX9_mint_67 rfl (lv_at hl 2 rfl) ?_
          refine lv_goto (tgt := 76) hx hb dX9_mint_68 (by decide) ?_
          exact hre _ _ _ _ _ _ hf hP hD hS dX9_mint_76
      · have hf := (if_neg c5).symm.trans hf
        refine lv_aload_n hx hb dX9_mint_38 rfl (lv_at hl 0 rfl) ?_
        refine lv_iload_n hx hb dX9_mint_39 rfl (lv_at hl 3 rfl) ?_
        obtain ⟨r8, hr8, hf⟩ := bi_some hf
        refine kc_v (ci := 8) (q0 := 0) (n := 1) S hRf hRl hK hA hP hD hS hl [.int l3] [] (kM_lateWith l D h cI cZ σ l3 r8 hr8) gX9_mint_X9_lateWith rfl (by decide +kernel) rfl ⟨by decide, by decide⟩ rfl rfl rfl rfl (Nat.le_of_ble_eq_true rfl) dX9_mint_40 (fun H locs hP hD hS => ?_)
        refine W.eq (g2 := F0 m 43 ls [.int r8]) rfl ?_
        refine lv_aload_n hx hb dX9_mint_43 rfl (lv_at hl 0 rfl) ?_
        refine lv_iload_n hx hb dX9_mint_44 rfl (lv_at hl 2 rfl) ?_
        obtain ⟨r9, hr9, hf⟩ := bi_some hf
        refine kc_v (ci := 8) (q0 := 0) (n := 1) S hRf hRl hK hA hP hD hS hl [.int l2] [.int r8] (kM_lateWith l D h cI cZ σ l2 r9 hr9) gX9_mint_X9_lateWith rfl (by decide +kernel) rfl ⟨by decide, by decide⟩ rfl rfl rfl rfl (Nat.le_of_ble_eq_true rfl) dX9_mint_45 (fun H locs hP hD hS => ?_)
        refine W.eq (g2 := F0 m 48 ls [.int r9, .int r8]) rfl ?_
        refine lv_icmp_ge (tgt := 55) hx hb dX9_mint_48 (by decide) (fun c10 => ?_) (fun c10 => ?_)
        · have hf := (if_pos c10).symm.trans hf
          refine lv_iload_n hx hb dX9_mint_55 rfl (lv_at hl 2 rfl) ?_
          exact b56 (FM_mint_32 n) ih _ _ _ _ _ _ _ hf (lv_sub hl [0, 1, 3] rfl) hP hD hS
        · have hf := (if_neg c10).symm.trans hf
          refine lv_iload_n hx hb dX9_mint_51 rfl (lv_at hl 3 rfl) ?_
          refine lv_goto (tgt := 56) hx hb dX9_mint_52 (by decide) ?_
          exact b56 (FM_mint_32 n) ih _ _ _ _ _ _ _ hf (lv_sub hl [0, 1, 3] rfl) hP hD hS
  unfold FM_mint at hf
  refine lv_aload_n hx hb dX9_mint_0 rfl (lv_at hl 0 rfl) ?_
  refine lv_iconst (v := 0) hx hb dX9_mint_1 (by decide) ?_
  refine Mp_0 S hin hK hP hD hS f47 dX9_mint_2 (fun H locs hP hD hS => ?_)
  obtain ⟨σ1, eσ1, hf⟩ := nm_some hf
  rw [← eσ1] at hP hD
  refine lv_aload_n hx hb dX9_mint_5 rfl (lv_at hl 0 rfl) ?_
  refine Mg_7 S hin hK hP f179 dX9_mint_6 ?_
  refine lv_if_ne (tgt := 15) hx hb dX9_mint_9 (by decide) (fun c2 => ?_) (fun c2 => ?_)
  · have hf := (if_neg c2).symm.trans hf
    refine lv_iload_n hx hb dX9_mint_15 rfl (lv_at hl 1 rfl) ?_
    refine lv_i2l hx hb dX9_mint_16 rfl ?_
    refine lv_lconst (v := 0) hx hb dX9_mint_17 (by decide) ?_
    refine lv_lconst (v := 1) hx hb dX9_mint_18 (by decide) ?_
    obtain ⟨r3, hr3, hf⟩ := bi_some hf
    refine kc_s (n := 3) S hRf hRl hK hA hP hD hS hl [.long (Int32.toInt64 a1), .long 0, .long 1] [] (kM_in l D _ _ (Int32.toInt64 a1) 0 1 r3 hr3) gX9_mint_X9_in rfl (by decide +kernel) rfl ⟨by decide, by decide⟩ rfl (Nat.le_of_ble_eq_true rfl) dX9_mint_19 (fun H locs hP hD hS => ?_)
    refine W.eq (g2 := F0 m 22 ls [.int r3]) rfl ?_
    refine lv_if_ne (tgt := 28) hx hb dX9_mint_22 (by decide) (fun c4 => ?_) (fun c4 => ?_)
    · have hf := (if_neg c4).symm.trans hf
      refine lv_iconst (v := 1) hx hb dX9_mint_28 (by decide) ?_
      refine lv_istore_n (lv' := [(2, .int 1), (0, .ref (h 0)), (1, .int a1)]) hx hb dX9_mint_29 rfl hl (by decide) rfl (fun ls hl => ?_)
      refine lv_iconst (v := 2) hx hb dX9_mint_30 (by decide) ?_
      refine lv_istore_n (lv' := [(3, .int 2), (2, .int 1), (0, .ref (h 0)), (1, .int a1)]) hx hb dX9_mint_31 rfl hl (by decide) rfl (fun ls hl => ?_)
      exact b32 fuelN _ _ _ _ _ _ _ hf (lv_sub hl [2, 3, 1, 0] rfl) hP hD hS
    · have hf := (if_pos c4).symm.trans hf
      refine lv_ldc (v := (-1000001)) hx hb hown c67 dX9_mint_25 ?_
      exact hre _ _ _ _ _ _ hf hP hD hS dX9_mint_27
  · have hf := (if_pos c2).symm.trans hf
    refine lv_ldc (v := (-1000002)) hx hb hown c210 dX9_mint_12 ?_
    exact hre _ _ _ _ _ _ hf hP hD hS dX9_mint_14
def FM_sounds_151 (ag47 : MS → Int32 → Int32 → Int32 → Int32 → Option (Int32 × MS)) (σ : MS) (l1 : Int32) (l2 : Int32) (l4 : Int32) (s0 : Int32) (s1 : Int32) : Option (Int32 × MS) :=
  nm (s1 + s0) fun (x23 : Int32) => nm (l4 + 1) fun (x24 : Int32) => ag47 σ l1 l2 x23 x24
def FM_sounds_150 (ag47 : MS → Int32 → Int32 → Int32 → Int32 → Option (Int32 × MS)) (σ : MS) (l1 : Int32) (l2 : Int32) (l4 : Int32) (s0 : Int32) : Option (Int32 × MS) :=
  FM_sounds_151 ag47 σ l1 l2 l4 0 s0
def FM_sounds_133 (ag47 : MS → Int32 → Int32 → Int32 → Int32 → Option (Int32 × MS)) (σ : MS) (l1 : Int32) (l2 : Int32) (l3 : Int32) (l4 : Int32) (l5 : Int32) (s0 : Int32) : Option (Int32 × MS) :=
  if l5 = 0 then (FM_sounds_150 ag47 σ l1 l2 l4 l3) else (if s0 = 0 then (FM_sounds_150 ag47 σ l1 l2 l4 l3) else (FM_sounds_151 ag47 σ l1 l2 l4 1 l3))
def FM_sounds_128 (ag47 : MS → Int32 → Int32 → Int32 → Int32 → Option (Int32 × MS)) (σ : MS) (l1 : Int32) (l2 : Int32) (l3 : Int32) (l4 : Int32) (l5 : Int32) : Option (Int32 × MS) :=
  FM_sounds_133 ag47 σ l1 l2 l3 l4 l5 1
def FM_sounds_93 (ag47 : MS → Int32 → Int32 → Int32 → Int32 → Option (Int32 × MS)) (σ : MS) (l1 : Int32) (l2 : Int32) (l3 : Int32) (l4 : Int32) (s0 : Int32) : Option (Int32 × MS) :=
  if l2 = 0 then (FM_sounds_128 ag47 σ l1 l2 l3 l4 s0) else (Option.bind (FM_of σ l4 0) fun (r16 : Int32) => if r16 = 5 then (FM_sounds_128 ag47 σ l1 l2 l3 l4 s0) else (Option.bind (FM_of σ l4 2) fun (r18 : Int32) => Option.bind (FM_spanOf σ l4) fun (r19 : Int32) => if r19 < (r18 + l2) then (FM_sounds_133 ag47 σ l1 l2 l3 l4 s0 0) else (FM_sounds_128 ag47 σ l1 l2 l3 l4 s0)))
def FM_sounds_92 (ag47 : MS → Int32 → Int32 → Int32 → Int32 → Option (Int32 × MS)) (σ : MS) (l1 : Int32) (l2 : Int32) (l3 : Int32) (l4 : Int32) : Option (Int32 × MS) :=
  FM_sounds_93 ag47 σ l1 l2 l3 l4 0
def FM_sounds_47  : Nat → MS → Int32 → Int32 → Int32 → Int32 → Option (Int32 × MS)
  | 0, _, _, _, _, _ => none
  | n + 1, σ, l1, l2, l3, l4 => gd (¬ ((3 : Int32) < 0 ∨ 147 ≤ Int32.toNatClampNeg 3)) (if (σ.2 5 (Int32.toNatClampNeg 3)) ≤ l4 then (some (l3, σ)) else (Option.bind (FM_of σ l4 3) fun (r9 : Int32) => if r9 = 0 then (Option.bind (FM_townOf σ l4) fun (r11 : Int32) => if r11 = l1 then (Option.bind (FM_of σ l4 5) fun (r13 : Int32) => if r13 = 0 then (FM_sounds_93 (FM_sounds_47 n) σ l1 l2 l3 l4 1) else (FM_sounds_92 (FM_sounds_47 n) σ l1 l2 l3 l4)) else (FM_sounds_92 (FM_sounds_47 n) σ l1 l2 l3 l4)) else (FM_sounds_92 (FM_sounds_47 n) σ l1 l2 l3 l4)))
def FM_sounds (σ : MS) (a1 : Int32) (a2 : Int32) : Option (Int32 × MS) :=
  nm (setF σ 0 0) fun (σ1 : MS) => if (σ1.1 7) = 0 then (some ((-1000002), σ1)) else (Option.bind (FM_in (Int32.toInt64 a1) 0 7) fun (r3 : Int32) => if r3 = 0 then (some ((-1000001), σ1)) else (Option.bind (FM_in (Int32.toInt64 a2) 0 400) fun (r5 : Int32) => if r5 = 0 then (some ((-1000001), σ1)) else (FM_sounds_47 fuelN σ1 a1 a2 0 0)))
set_option maxHeartbeats 4000000 in
set_option maxRecDepth 100000 in
theorem kM_sounds (l : Launch) (D : va_G) (h : Nat → Nat) (cI cZ : ClassId) (σ : MS) (a1 : Int32) (a2 : Int32) (r : Int32) (σ' : MS) (hf : FM_sounds σ a1 a2 = some (r, σ')) : KK l D [(cI, .int), (cZ, .boolean)] yX9_sounds wsX9_sounds 2 44 [.ref (h 0), .int a1, .int a2] (mw h cI cZ σ) (some (.int r)) (mw h cI cZ σ') := by
  refine KK.ofI (own := RX9) (cc := cX9_sounds) (maxL := 7) (by decide) rfl rfl (Nat.le_of_ble_eq_true rfl) ?_
  intro p e s m args below meth c R Q A ls S hRf hRl hK hA hP hD hS hl hret
  obtain ⟨hx, hb, hml, hown, hts⟩ := id S
  have hin : ∀ w ∈ wsX90, w ∈ wsX9_sounds := fun w hw => List.mem_cons_of_mem _ (List.mem_append_right _ hw)
  have f47 := hts (.fieldLink RX9 47 "PenniesAwayModel" "thrown" "I") (by decide +kernel)
  have f179 := hts (.fieldLink RX9 179 "PenniesAwayModel" "isThere" "Z") (by decide +kernel)
  have c55 := hts (.constantLong RX9 55 (7)) (by decide +kernel)
  have c67 := hts (.constant RX9 67 (-1000001)) (by decide +kernel)
  have c248 := hts (.constantLong RX9 248 (400)) (by decide +kernel)
  have c210 := hts (.constant RX9 210 (-1000002)) (by decide +kernel)
  have f19 := hts (.fieldLink RX9 19 "PenniesAwayModel" "realm" "[I") (by decide +kernel)
  have hl : lv_has ls 7 [(0, .ref (h 0)), (1, .int a1), (2, .int a2)] := hl
  have hre : ∀ (x : Int32) (σx : MS) (pc : Nat) (ls : Array Slot) (H : Heap) (locs : List Loc), (some (x, σx) : Option (Int32 × MS)) = some (r, σ') → va_P D vwCl (mw h cI cZ σx) H → va_D A (mw h cI cZ σx) → va_S A s.heap H locs → decode cX9_sounds pc = .ok (.ireturn, 1) → W p l e R s m args below meth c H locs 0 0 Q (F0 m pc ls [.int x]) := by intro x σx pc ls H locs he; cases he; exact hret pc ls H locs
  have b151 : ∀ (ag47 : MS → Int32 → Int32 → Int32 → Int32 → Option (Int32 × MS)) (hag47 : ∀ (σ : MS) (l1 : Int32) (l2 : Int32) (l3 : Int32) (l4 : Int32) (ls : Array Slot) (H : Heap) (locs : List Loc), ag47 σ l1 l2 l3 l4 = some (r, σ') → lv_has ls 7 [(0, .ref (h 0)), (1, .int l1), (2, .int l2), (3, .int l3), (4, .int l4)] → va_P D vwCl (mw h cI cZ σ) H → va_D A (mw h cI cZ σ) → va_S A s.heap H locs → W p l e R s m args below meth c H locs 0 0 Q (F0 m 47 ls [])), ∀ (σ : MS) (l1 : Int32) (l2 : Int32) (l4 : Int32) (s0 : Int32) (s1 : Int32) (ls : Array Slot) (H : Heap) (locs : List Loc), FM_sounds_151 ag47 σ l1 l2 l4 s0 s1 = some (r, σ') → lv_has ls 7 [(0, .ref (h 0)), (1, .int l1), (2, .int l2), (4, .int l4)] → va_P D vwCl (mw h cI cZ σ) H → va_D A (mw h cI cZ σ) → va_S A s.heap H locs → W p l e R s m args below meth c H locs 0 0 Q (F0 m 151 ls [.int s0, .int s1]) := by
    intro ag47 hag47 σ l1 l2 l4 s0 s1 ls H locs hf hl hP hD hS
    unfold FM_sounds_151 at hf
    refine lv_iadd hx hb dX9_sounds_151 ?_
    refine lv_topi (fun x23 ex23 => ?_)
    have hf := nm_at ex23 hf
    refine lv_istore_n (lv' := [(3, .int x23), (0, .ref (h 0)), (1, .int l1), (2, .int l2), (4, .int l4)]) hx hb dX9_sounds_152 rfl hl (by decide) rfl (fun ls hl => ?_)
    obtain ⟨x24, ex24, hf⟩ := nm_some hf
    refine lv_iinc (v := x24) (lv' := [(4, .int x24), (3, .int x23), (0, .ref (h 0)), (1, .int l1), (2, .int l2)]) hx hb dX9_sounds_153 hl (k := 4) rfl (by rw [ex24]; rfl) (by decide) rfl (fun ls hl => ?_)
    refine lv_goto (tgt := 47) hx hb dX9_sounds_156 (by decide) ?_
    exact hag47 _ _ _ _ _ _ _ _ hf (lv_sub hl [2, 3, 4, 1, 0] rfl) hP hD hS
  have b150 : ∀ (ag47 : MS → Int32 → Int32 → Int32 → Int32 → Option (Int32 × MS)) (hag47 : ∀ (σ : MS) (l1 : Int32) (l2 : Int32) (l3 : Int32) (l4 : Int32) (ls : Array Slot) (H : Heap) (locs : List Loc), ag47 σ l1 l2 l3 l4 = some (r, σ') → lv_has ls 7 [(0, .ref (h 0)), (1, .int l1), (2, .int l2), (3, .int l3), (4, .int l4)] → va_P D vwCl (mw h cI cZ σ) H → va_D A (mw h cI cZ σ) → va_S A s.heap H locs → W p l e R s m args below meth c H locs 0 0 Q (F0 m 47 ls [])), ∀ (σ : MS) (l1 : Int32) (l2 : Int32) (l4 : Int32) (s0 : Int32) (ls : Array Slot) (H : Heap) (locs : List Loc), FM_sounds_150 ag47 σ l1 l2 l4 s0 = some (r, σ') → lv_has ls 7 [(0, .ref (h 0)), (1, .int l1), (2, .int l2), (4, .int l4)] → va_P D vwCl (mw h cI cZ σ) H → va_D A (mw h cI cZ σ) → va_S A s.heap H locs → W p l e R s m args below meth c H locs 0 0 Q (F0 m 150 ls [.int s0]) := by
    intro ag47 hag47 σ l1 l2 l4 s0 ls H locs hf hl hP hD hS
    unfold FM_sounds_150 at hf
    refine lv_iconst (v := 0) hx hb dX9_sounds_150 (by decide) ?_
    exact b151 ag47 hag47 _ _ _ _ _ _ _ _ _ hf (lv_sub hl [0, 1, 2, 3] rfl) hP hD hS
  have b133 : ∀ (ag47 : MS → Int32 → Int32 → Int32 → Int32 → Option (Int32 × MS)) (hag47 : ∀ (σ : MS) (l1 : Int32) (l2 : Int32) (l3 : Int32) (l4 : Int32) (ls : Array Slot) (H : Heap) (locs : List Loc), ag47 σ l1 l2 l3 l4 = some (r, σ') → lv_has ls 7 [(0, .ref (h 0)), (1, .int l1), (2, .int l2), (3, .int l3), (4, .int l4)] → va_P D vwCl (mw h cI cZ σ) H → va_D A (mw h cI cZ σ) → va_S A s.heap H locs → W p l e R s m args below meth c H locs 0 0 Q (F0 m 47 ls [])), ∀ (σ : MS) (l1 : Int32) (l2 : Int32) (l3 : Int32) (l4 : Int32) (l5 : Int32) (s0 : Int32) (ls : Array Slot) (H : Heap) (locs : List Loc), FM_sounds_133 ag47 σ l1 l2 l3 l4 l5 s0 = some (r, σ') → lv_has ls 7 [(0, .ref (h 0)), (1, .int l1), (2, .int l2), (3, .int l3), (4, .int l4), (5, .int l5)] → va_P D vwCl (mw h cI cZ σ) H → va_D A (mw h cI cZ σ) → va_S A s.heap H locs → W p l e R s m args below meth c H locs 0 0 Q (F0 m 133 ls [.int s0]) := by
    intro ag47 hag47 σ l1 l2 l3 l4 l5 s0 ls H locs hf hl hP hD hS
    unfold FM_sounds_133 at hf
    refine lv_istore (lv' := [(6, .int s0), (0, .ref (h 0)), (1, .int l1), (2, .int l2), (3, .int l3), (4, .int l4), (5, .int l5)]) hx hb dX9_sounds_133 hl (by decide) rfl (fun ls hl => ?_)
    refine lv_iload_n hx hb dX9_sounds_135 rfl (lv_at hl 4 rfl) ?_
    refine lv_iload hx hb dX9_sounds_136 (lv_at hl 6 rfl) ?_
    refine lv_if_eq (tgt := 150) hx hb dX9_sounds_138 (by decide) (fun c21 => ?_) (fun c21 => ?_)
    · have hf := (if_pos c21).symm.trans hf
      exact b150 ag47 hag47 _ _ _ _ _ _ _ _ hf (lv_sub hl [1, 2, 3, 5] rfl) hP hD hS
    · have hf := (if_neg c21).symm.trans hf
      refine lv_iload hx hb dX9_sounds_141 (lv_at hl 0 rfl) ?_
      refine lv_if_eq (tgt := 150) hx hb dX9_sounds_143 (by decide) (fun c22 => ?_) (fun c22 => ?_)
      · have hf := (if_pos c22).symm.trans hf
        exact b150 ag47 hag47 _ _ _ _ _ _ _ _ hf (lv_sub hl [1, 2, 3, 5] rfl) hP hD hS
      · have hf := (if_neg c22).symm.trans hf
        refine lv_iconst (v := 1) hx hb dX9_sounds_146 (by decide) ?_
        refine lv_goto (tgt := 151) hx hb dX9_sounds_147 (by decide) ?_
        exact b151 ag47 hag47 _ _ _ _ _ _ _ _ _ hf (lv_sub hl [1, 2, 3, 5] rfl) hP hD hS
  have b128 : ∀ (ag47 : MS → Int32 → Int32 → Int32 → Int32 → Option (Int32 × MS)) (hag47 : ∀ (σ : MS) (l1 : Int32) (l2 : Int32) (l3 : Int32) (l4 : Int32) (ls : Array Slot) (H : Heap) (locs : List Loc), ag47 σ l1 l2 l3 l4 = some (r, σ') → lv_has ls 7 [(0, .ref (h 0)), (1, .int l1), (2, .int l2), (3, .int l3), (4, .int l4)] → va_P D vwCl (mw h cI cZ σ) H → va_D A (mw h cI cZ σ) → va_S A s.heap H locs → W p l e R s m args below meth c H locs 0 0 Q (F0 m 47 ls [])), ∀ (σ : MS) (l1 : Int32) (l2 : Int32) (l3 : Int32) (l4 : Int32) (l5 : Int32) (ls : Array Slot) (H : Heap) (locs : List Loc), FM_sounds_128 ag47 σ l1 l2 l3 l4 l5 = some (r, σ') → lv_has ls 7 [(0, .ref (h 0)), (1, .int l1), (2, .int l2), (3, .int l3), (4, .int l4), (5, .int l5)] → va_P D vwCl (mw h cI cZ σ) H → va_D A (mw h cI cZ σ) → va_S A s.heap H locs → W p l e R s m args below meth c H locs 0 0 Q (F0 m 128 ls []) := by
    intro ag47 hag47 σ l1 l2 l3 l4 l5 ls H locs hf hl hP hD hS
    unfold FM_sounds_128 at hf
    refine lv_iconst (v := 1) hx hb dX9_sounds_128 (by decide) ?_
    refine lv_goto (tgt := 133) hx hb dX9_sounds_129 (by decide) ?_
    exact b133 ag47 hag47 _ _ _ _ _ _ _ _ _ _ hf (lv_sub hl [0, 1, 2, 3, 4, 5] rfl) hP hD hS
  have b93 : ∀ (ag47 : MS → Int32 → Int32 → Int32 → Int32 → Option (Int32 × MS)) (hag47 : ∀ (σ : MS) (l1 : Int32) (l2 : Int32) (l3 : Int32) (l4 : Int32) (ls : Array Slot) (H : Heap) (locs : List Loc), ag47 σ l1 l2 l3 l4 = some (r, σ') → lv_has ls 7 [(0, .ref (h 0)), (1, .int l1), (2, .int l2), (3, .int l3), (4, .int l4)] → va_P D vwCl (mw h cI cZ σ) H → va_D A (mw h cI cZ σ) → va_S A s.heap H locs → W p l e R s m args below meth c H locs 0 0 Q (F0 m 47 ls [])), ∀ (σ : MS) (l1 : Int32) (l2 : Int32) (l3 : Int32) (l4 : Int32) (s0 : Int32) (ls : Array Slot) (H : Heap) (locs : List Loc), FM_sounds_93 ag47 σ l1 l2 l3 l4 s0 = some (r, σ') → lv_has ls 7 [(0, .ref (h 0)), (1, .int l1), (2, .int l2), (3, .int l3), (4, .int l4)] → va_P D vwCl (mw h cI cZ σ) H → va_D A (mw h cI cZ σ) → va_S A s.heap H locs → W p l e R s m args below meth c H locs 0 0 Q (F0 m 93 ls [.int s0]) := by
    intro ag47 hag47 σ l1 l2 l3 l4 s0 ls H locs hf hl hP hD hS
    unfold FM_sounds_93 at hf
    refine lv_istore (lv' := [(5, .int s0), (0, .ref (h 0)), (1, .int l1), (2, .int l2), (3, .int l3), (4, .int l4)]) hx hb dX9_sounds_93 hl (by decide) rfl (fun ls hl => ?_)
    refine lv_iload_n hx hb dX9_sounds_95 rfl (lv_at hl 3 rfl) ?_
    refine lv_if_eq (tgt := 128) hx hb dX9_sounds_96 (by decide) (fun c15 => ?_) (fun c15 => ?_)
    · have hf := (if_pos c15).symm.trans hf
      exact b128 ag47 hag47 _ _ _ _ _ _ _ _ _ hf (lv_sub hl [1, 2, 3, 4, 5, 0] rfl) hP hD hS
    · have hf := (if_neg c15).symm.trans hf
      refine lv_aload_n hx hb dX9_sounds_99 rfl (lv_at hl 1 rfl) ?_
      refine lv_iload hx hb dX9_sounds_100 (lv_at hl 5 rfl) ?_
      refine lv_iconst (v := 0) hx hb dX9_sounds_102 (by decide) ?_
      obtain ⟨r16, hr16, hf⟩ := bi_some hf
      refine kc_v (ci := 8) (q0 := 0) (n := 2) S hRf hRl hK hA hP hD hS hl [.int l4, .int 0] [] (kM_of l D h cI cZ σ l4 0 r16 hr16) gX9_sounds_X9_of rfl (by decide +kernel) rfl ⟨by decide, by decide⟩ rfl rfl rfl rfl (Nat.le_of_ble_eq_true rfl) dX9_sounds_103 (fun H locs hP hD hS => ?_)
      refine W.eq (g2 := F0 m 106 ls [.int r16]) rfl ?_
      refine lv_iconst (v := 5) hx hb dX9_sounds_106 (by decide) ?_
      refine lv_icmp_eq (tgt := 128) hx hb dX9_sounds_107 (by decide) (fun c17 => ?_) (fun c17 => ?_)
      · have hf := (if_pos c17).symm.trans hf
        exact b128 ag47 hag47 _ _ _ _ _ _ _ _ _ hf (lv_sub hl [1, 2, 3, 4, 5, 0] rfl) hP hD hS
      · have hf := (if_neg c17).symm.trans hf
        refine lv_aload_n hx hb dX9_sounds_110 rfl (lv_at hl 1 rfl) ?_
        refine lv_iload hx hb dX9_sounds_111 (lv_at hl 5 rfl) ?_
        refine lv_iconst (v := 2) hx hb dX9_sounds_113 (by decide) ?_
        obtain ⟨r18, hr18, hf⟩ := bi_some hf
        refine kc_v (ci := 8) (q0 := 0) (n := 2) S hRf hRl hK hA hP hD hS hl [.int l4, .int 2] [] (kM_of l D h cI cZ σ l4 2 r18 hr18) gX9_sounds_X9_of rfl (by decide +kernel) rfl ⟨by decide, by decide⟩ rfl rfl rfl rfl (Nat.le_of_ble_eq_true rfl) dX9_sounds_114 (fun H locs hP hD hS => ?_)
        refine W.eq (g2 := F0 m 117 ls [.int r18]) rfl ?_
        refine lv_iload_n hx hb dX9_sounds_117 rfl (lv_at hl 3 rfl) ?_
        refine lv_iadd hx hb dX9_sounds_118 ?_
        refine lv_aload_n hx hb dX9_sounds_119 rfl (lv_at hl 1 rfl) ?_
        refine lv_iload hx hb dX9_sounds_120 (lv_at hl 5 rfl) ?_
        obtain ⟨r19, hr19, hf⟩ := bi_some hf
        refine kc_v (ci := 8) (q0 := 0) (n := 1) S hRf hRl hK hA hP hD hS hl [.int l4] [.int (r18 + l2)] (kM_spanOf l D h cI cZ σ l4 r19 hr19) gX9_sounds_X9_spanOf rfl (by decide +kernel) rfl ⟨by decide, by decide⟩ rfl rfl rfl rfl (Nat.le_of_ble_eq_true rfl) dX9_sounds_122 (fun H locs hP hD hS => ?_)
        refine W.eq (g2 := F0 m 125 ls [.int r19, .int (r18 + l2)]) rfl ?_
        refine lv_icmp_gt (tgt := 132) hx hb dX9_sounds_125 (by decide) (fun c20 => ?_) (fun c20 => ?_)
        · have hf := (if_pos c20).symm.trans hf
          refine lv_iconst (v := 0) hx hb dX9_sounds_132 (by decide) ?_
          exact b133 ag47 hag47 _ _ _ _ _ _ _ _ _ _ hf (lv_sub hl [1, 2, 3, 4, 5, 0] rfl) hP hD hS
        · have hf := (if_neg c20).symm.trans hf
          exact b128 ag47 hag47 _ _ _ _ _ _ _ _ _ hf (lv_sub hl [1, 2, 3, 4, 5, 0] rfl) hP hD hS
  have b92 : ∀ (ag47 : MS → Int32 → Int32 → Int32 → Int32 → Option (Int32 × MS)) (hag47 : ∀ (σ : MS) (l1 : Int32) (l2 : Int32) (l3 : Int32) (l4 : Int32) (ls : Array Slot) (H : Heap) (locs : List Loc), ag47 σ l1 l2 l3 l4 = some (r, σ') → lv_has ls 7 [(0, .ref (h 0)), (1, .int l1), (2, .int l2), (3, .int l3), (4, .int l4)] → va_P D vwCl (mw h cI cZ σ) H → va_D A (mw h cI cZ σ) → va_S A s.heap H locs → W p l e R s m args below meth c H locs 0 0 Q (F0 m 47 ls [])), ∀ (σ : MS) (l1 : Int32) (l2 : Int32) (l3 : Int32) (l4 : Int32) (ls : Array Slot) (H : Heap) (locs : List Loc), FM_sounds_92 ag47 σ l1 l2 l3 l4 = some (r, σ') → lv_has ls 7 [(0, .ref (h 0)), (1, .int l1), (2, .int l2), (3, .int l3), (4, .int l4)] → va_P D vwCl (mw h cI cZ σ) H → va_D A (mw h cI cZ σ) → va_S A s.heap H locs → W p l e R s m args below meth c H locs 0 0 Q (F0 m 92 ls []) := by
    intro ag47 hag47 σ l1 l2 l3 l4 ls H locs hf hl hP hD hS
    unfold FM_sounds_92 at hf
    refine lv_iconst (v := 0) hx hb dX9_sounds_92 (by decide) ?_
    exact b93 ag47 hag47 _ _ _ _ _ _ _ _ _ hf (lv_sub hl [0, 1, 2, 3, 4] rfl) hP hD hS
  have b47 : ∀ (n : Nat), ∀ (σ : MS) (l1 : Int32) (l2 : Int32) (l3 : Int32) (l4 : Int32) (ls : Array Slot) (H : Heap) (locs : List Loc), FM_sounds_47 n σ l1 l2 l3 l4 = some (r, σ') → lv_has ls 7 [(0, .ref (h 0)), (1, .int l1), (2, .int l2), (3, .int l3), (4, .int l4)] → va_P D vwCl (mw h cI cZ σ) H → va_D A (mw h cI cZ σ) → va_S A s.heap H locs → W p l e R s m args below meth c H locs 0 0 Q (F0 m 47 ls []) := by
    intro n
    induction n with
    | zero => intro σ l1 l2 l3 l4 ls H locs hf; exact absurd hf (by simp [FM_sounds_47])
    | succ n ih =>
      intro σ l1 l2 l3 l4 ls H locs hf hl hP hD hS
      rw [FM_sounds_47] at hf
      refine lv_iload hx hb dX9_sounds_47 (lv_at hl 4 rfl) ?_
      refine lv_aload_n hx hb dX9_sounds_49 rfl (lv_at hl 0 rfl) ?_
      refine Mg_5 S hin hK hP f19 dX9_sounds_50 ?_
      refine lv_iconst (v := 3) hx hb dX9_sounds_53 (by decide) ?_
      obtain ⟨g7, hf⟩ := gd_some hf
      refine Ml_5 S hK hP g7 dX9_sounds_54 ?_
      refine lv_icmp_ge (tgt := 159) hx hb dX9_sounds_55 (by decide) (fun c8 => ?_) (fun c8 => ?_)
      · have hf := (if_pos c8).symm.trans hf
        refine lv_iload_n hx hb dX9_sounds_159 rfl (lv_at hl 3 rfl) ?_
        exact hre _ _ _ _ _ _ hf hP hD hS dX9_sounds_160
      · have hf := (if_neg c8).symm.trans hf
        refine lv_aload_n hx hb dX9_sounds_58 rfl (lv_at hl 0 rfl) ?_
        refine lv_iload hx hb dX9_sounds_59 (lv_at hl 4 rfl) ?_
        refine lv_iconst (v := 3) hx hb dX9_sounds_61 (by decide) ?_
        obtain ⟨r9, hr9, hf⟩ := bi_some hf
        refine kc_v (ci := 8) (q0 := 0) (n := 2) S hRf hRl hK hA hP hD hS hl [.int l4, .int 3] [] (kM_of l D h cI cZ σ l4 3 r9 hr9) gX9_sounds_X9_of rfl (by decide +kernel) rfl ⟨by decide, by decide⟩ rfl rfl rfl rfl (Nat.le_of_ble_eq_true rfl) dX9_sounds_62 (fun H locs hP hD hS => ?_)
        refine W.eq (g2 := F0 m 65 ls [.int r9]) rfl ?_
        refine lv_if_ne (tgt := 92) hx hb dX9_sounds_65 (by decide) (fun c10 => ?_) (fun c10 => ?_)
        · have hf := (if_neg c10).symm.trans hf
          exact b92 (FM_sounds_47 n) ih _ _ _ _ _ _ _ _ hf (lv_sub hl [0, 1, 2, 3, 4] rfl) hP hD hS
        · have hf := (if_pos c10).symm.trans hf
          refine lv_aload_n hx hb dX9_sounds_68 rfl (lv_at hl 0 rfl) ?_
          refine lv_iload hx hb dX9_sounds_69 (lv_at hl 4 rfl) ?_
          obtain ⟨r11, hr11, hf⟩ := bi_some hf
          refine kc_v (ci := 8) (q0 := 0) (n := 1) S hRf hRl hK hA hP hD hS hl [.int l4] [] (kM_townOf l D h cI cZ σ l4 r11 hr11) gX9_sounds_X9_townOf rfl (by decide +kernel) rfl ⟨by decide, by decide⟩ rfl rfl rfl rfl (Nat.le_of_ble_eq_true rfl) dX9_sounds_71 (fun H locs hP hD hS => ?_)
          refine W.eq (g2 := F0 m 74 ls [.int r11]) rfl ?_
          refine lv_iload_n hx hb dX9_sounds_74 rfl (lv_at hl 1 rfl) ?_
          refine lv_icmp_ne (tgt := 92) hx hb dX9_sounds_75 (by decide) (fun c12 => ?_) (fun c12 => ?_)
          · have hf := (if_neg c12).symm.trans hf
            exact b92 (FM_sounds_47 n) ih _ _ _ _ _ _ _ _ hf (lv_sub hl [0, 1, 2, 3, 4] rfl) hP hD hS
          · have hf := (if_pos c12).symm.trans hf
            refine lv_aload_n hx hb dX9_sounds_78 rfl (lv_at hl 0 rfl) ?_
            refine lv_iload hx hb dX9_sounds_79 (lv_at hl 4 rfl) ?_
            refine lv_iconst (v := 5) hx hb dX9_sounds_81 (by decide) ?_
            obtain ⟨r13, hr13, hf⟩ := bi_some hf
            refine kc_v (ci := 8) (q0 := 0) (n := 2) S hRf hRl hK hA hP hD hS hl [.int l4, .int 5] [] (kM_of l D h cI cZ σ l4 5 r13 hr13) gX9_sounds_X9_of rfl (by decide +kernel) rfl ⟨by decide, by decide⟩ rfl rfl rfl rfl (Nat.le_of_ble_eq_true rfl) dX9_sounds_82 (fun H locs hP hD hS => ?_)
            refine W.eq (g2 := F0 m 85 ls [.int r13]) rfl ?_
            refine lv_if_ne (tgt := 92) hx hb dX9_sounds_85 (by decide) (fun c14 => ?_) (fun c14 => ?_)
            · have hf := (if_neg c14).symm.trans hf
              exact b92 (FM_sounds_47 n) ih _ _ _ _ _ _ _ _ hf (lv_sub hl [0, 1, 2, 3, 4] rfl) hP hD hS
            · have hf := (if_pos c14).symm.trans hf
              refine lv_iconst (v := 1) hx hb dX9_sounds_88 (by decide) ?_
              refine lv_goto (tgt := 93) hx hb dX9_sounds_89 (by decide) ?_
              exact b93 (FM_sounds_47 n) ih _ _ _ _ _ _ _ _ _ hf (lv_sub hl [0, 1, 2, 3, 4] rfl) hP hD hS
  unfold FM_sounds at hf
  refine lv_aload_n hx hb dX9_sounds_0 rfl (lv_at hl 0 rfl) ?_
  refine lv_iconst (v := 0) hx hb dX9_sounds_1 (by decide) ?_
  refine Mp_0 S hin hK hP hD hS f47 dX9_sounds_2 (fun H locs hP hD hS => ?_)
  obtain ⟨σ1, eσ1, hf⟩ := nm_some hf
  rw [← eσ1] at hP hD
  refine lv_aload_n hx hb dX9_sounds_5 rfl (lv_at hl 0 rfl) ?_
  refine Mg_7 S hin hK hP f179 dX9_sounds_6 ?_
  refine lv_if_ne (tgt := 15) hx hb dX9_sounds_9 (by decide) (fun c2 => ?_) (fun c2 => ?_)
  · have hf := (if_neg c2).symm.trans hf
    refine lv_iload_n hx hb dX9_sounds_15 rfl (lv_at hl 1 rfl) ?_
    refine lv_i2l hx hb dX9_sounds_16 rfl ?_
    refine lv_lconst (v := 0) hx hb dX9_sounds_17 (by decide) ?_
    refine lv_ldc2 (v := 7) hx hb hown c55 dX9_sounds_18 ?_
    obtain ⟨r3, hr3, hf⟩ := bi_some hf
    refine kc_s (n := 3) S hRf hRl hK hA hP hD hS hl [.long (Int32.toInt64 a1), .long 0, .long 7] [] (kM_in l D _ _ (Int32.toInt64 a1) 0 7 r3 hr3) gX9_sounds_X9_in rfl (by decide +kernel) rfl ⟨by decide, by decide⟩ rfl (Nat.le_of_ble_eq_true rfl) dX9_sounds_21 (fun H locs hP hD hS => ?_)
    refine W.eq (g2 := F0 m 24 ls [.int r3]) rfl ?_
    refine lv_if_eq (tgt := 39) hx hb dX9_sounds_24 (by decide) (fun c4 => ?_) (fun c4 => ?_)
    · have hf := (if_pos c4).symm.trans hf
      refine lv_ldc (v := (-1000001)) hx hb hown c67 dX9_sounds_39 ?_
      exact hre _ _ _ _ _ _ hf hP hD hS dX9_sounds_41
    · have hf := (if_neg c4).symm.trans hf
      refine lv_iload_n hx hb dX9_sounds_27 rfl (lv_at hl 2 rfl) ?_
      refine lv_i2l hx hb dX9_sounds_28 rfl ?_
      refine lv_lconst (v := 0) hx hb dX9_sounds_29 (by decide) ?_
      refine lv_ldc2 (v := 400) hx hb hown c248 dX9_sounds_30 ?_
      obtain ⟨r5, hr5, hf⟩ := bi_some hf
      refine kc_s (n := 3) S hRf hRl hK hA hP hD hS hl [.long (Int32.toInt64 a2), .long 0, .long 400] [] (kM_in l D _ _ (Int32.toInt64 a2) 0 400 r5 hr5) gX9_sounds_X9_in rfl (by decide +kernel) rfl ⟨by decide, by decide⟩ rfl (Nat.le_of_ble_eq_true rfl) dX9_sounds_33 (fun H locs hP hD hS => ?_)
      refine W.eq (g2 := F0 m 36 ls [.int r5]) rfl ?_
      refine lv_if_ne (tgt := 42) hx hb dX9_sounds_36 (by decide) (fun c6 => ?_) (fun c6 => ?_)
      · have hf := (if_neg c6).symm.trans hf
        refine lv_iconst (v := 0) hx hb dX9_sounds_42 (by decide) ?_
        refine lv_istore_n (lv' := [(3, .int 0), (0, .ref (h 0)), (1, .int a1), (2, .int a2)]) hx hb dX9_sounds_43 rfl hl (by decide) rfl (fun ls hl => ?_)
        refine lv_iconst (v := 0) hx hb dX9_sounds_44 (by decide) ?_
        refine lv_istore (lv' := [(4, .int 0), (3, .int 0), (0, .ref (h 0)), (1, .int a1), (2, .int a2)]) hx hb dX9_sounds_45 hl (by decide) rfl (fun ls hl => ?_)
        exact b47 fuelN _ _ _ _ _ _ _ _ hf (lv_sub hl [2, 3, 4, 1, 0] rfl) hP hD hS
      · have hf := (if_pos c6).symm.trans hf
        refine lv_ldc (v := (-1000001)) hx hb hown c67 dX9_sounds_39 ?_
        exact hre _ _ _ _ _ _ hf hP hD hS dX9_sounds_41
  · have hf := (if_pos c2).symm.trans hf
    refine lv_ldc (v := (-1000002)) hx hb hown c210 dX9_sounds_12 ?_
    exact hre _ _ _ _ _ _ hf hP hD hS dX9_sounds_14
def FM_timesOf_4  : Nat → Int32 → Int32 → Int32 → Int32 → Option Int32
  | 0, _, _, _, _ => none
  | n + 1, l0, l1, l2, l3 => if l1 ≤ l3 then (some l2) else (nm (l2 * l0) fun (x2 : Int32) => nm (l3 + 1) fun (x3 : Int32) => (FM_timesOf_4 n) l0 l1 x2 x3)
def FM_timesOf (a0 : Int32) (a1 : Int32) : Option Int32 :=
  FM_timesOf_4 fuelN a0 a1 1 0
set_option maxHeartbeats 4000000 in
set_option maxRecDepth 100000 in
theorem kM_timesOf (l : Launch) (D : va_G) (tys : List (ClassId × FieldType)) (w0 : va_W) (a0 : Int32) (a1 : Int32) (r : Int32) (hf : FM_timesOf a0 a1 = some r) : KK l D tys yX9_timesOf wsX9_timesOf 0 0 [.int a0, .int a1] w0 (some (.int r)) w0 := by
  refine KK.ofI (own := RX9) (cc := cX9_timesOf) (maxL := 4) (by decide) rfl rfl (Nat.le_of_ble_eq_true rfl) ?_
  intro p e s m args below meth c R Q A ls S hRf hRl hK hA hP hD hS hl hret
  obtain ⟨hx, hb, hml, hown, hts⟩ := id S
  have hl : lv_has ls 4 [(0, .int a0), (1, .int a1)] := hl
  have hre : ∀ (x : Int32) (pc : Nat) (ls : Array Slot) (H : Heap) (locs : List Loc), (some x : Option Int32) = some r → va_P D vwCl w0 H → va_D A w0 → va_S A s.heap H locs → decode cX9_timesOf pc = .ok (.ireturn, 1) → W p l e R s m args below meth c H locs 0 0 Q (F0 m pc ls [.int x]) := by intro x pc ls H locs he; cases he; exact hret pc ls H locs
  have b4 : ∀ (n : Nat), ∀ (l0 : Int32) (l1 : Int32) (l2 : Int32) (l3 : Int32) (ls : Array Slot) (H : Heap) (locs : List Loc), FM_timesOf_4 n l0 l1 l2 l3 = some r → lv_has ls 4 [(0, .int l0), (1, .int l1), (2, .int l2), (3, .int l3)] → va_P D vwCl w0 H → va_D A w0 → va_S A s.heap H locs → W p l e R s m args below meth c H locs 0 0 Q (F0 m 4 ls []) := by
    intro n
    induction n with
    | zero => intro l0 l1 l2 l3 ls H locs hf; exact absurd hf (by simp [FM_timesOf_4])
    | succ n ih =>
      intro l0 l1 l2 l3 ls H locs hf hl hP hD hS
      rw [FM_timesOf_4] at hf
      refine lv_iload_n hx hb dX9_timesOf_4 rfl (lv_at hl 3 rfl) ?_
      refine lv_iload_n hx hb dX9_timesOf_5 rfl (lv_at hl 1 rfl) ?_
      refine lv_icmp_ge (tgt := 19) hx hb dX9_timesOf_6 (by decide) (fun c1 => ?_) (fun c1 => ?_)
      · have hf := (if_pos c1).symm.trans hf
        refine lv_iload_n hx hb dX9_timesOf_19 rfl (lv_at hl 2 rfl) ?_
        exact hre _ _ _ _ _ hf hP hD hS dX9_timesOf_20
      · have hf := (if_neg c1).symm.trans hf
        refine lv_iload_n hx hb dX9_timesOf_9 rfl (lv_at hl 2 rfl) ?_
        refine lv_iload_n hx hb dX9_timesOf_10 rfl (lv_at hl 0 rfl) ?_
        refine lv_imul hx hb dX9_timesOf_11 ?_
        refine lv_topi (fun x2 ex2 => ?_)
        have hf := nm_at ex2 hf
        refine lv_istore_n (lv' := [(2, .int x2), (0, .int l0), (1, .int l1), (3, .int l3)]) hx hb dX9_timesOf_12 rfl hl (by decide) rfl (fun ls hl => ?_)
        obtain ⟨x3, ex3, hf⟩ := nm_some hf
        refine lv_iinc (v := x3) (lv' := [(3, .int x3), (2, .int x2), (0, .int l0), (1, .int l1)]) hx hb dX9_timesOf_13 hl (k := 3) rfl (by rw [ex3]; rfl) (by decide) rfl (fun ls hl => ?_)
        refine lv_goto (tgt := 4) hx hb dX9_timesOf_16 (by decide) ?_
        exact ih _ _ _ _ _ _ _ hf (lv_sub hl [2, 3, 1, 0] rfl) hP hD hS
  unfold FM_timesOf at hf
  refine lv_iconst (v := 1) hx hb dX9_timesOf_0 (by decide) ?_
  refine lv_istore_n (lv' := [(2, .int 1), (0, .int a0), (1, .int a1)]) hx hb dX9_timesOf_1 rfl hl (by decide) rfl (fun ls hl => ?_)
  refine lv_iconst (v := 0) hx hb dX9_timesOf_2 (by decide) ?_
  refine lv_istore_n (lv' := [(3, .int 0), (2, .int 1), (0, .int a0), (1, .int a1)]) hx hb dX9_timesOf_3 rfl hl (by decide) rfl (fun ls hl => ?_)
  exact b4 fuelN _ _ _ _ _ _ _ hf (lv_sub hl [2, 3, 1, 0] rfl) hP hD hS
def FM_ear_168 (σ : MS) (l8 : Int32) (s0 : Int32) : Option (Int32 × MS) :=
  gd (¬ (l8 : Int32) = 0) (some ((s0 / l8), σ))
def FM_ear_133  : Nat → MS → Int32 → Int32 → Int32 → Int32 → Int32 → Option (Int32 × MS)
  | 0, _, _, _, _, _, _ => none
  | n + 1, σ, l5, l6, l7, l8, l9 => if l9 = 0 then (if l5 = 0 then (FM_ear_168 σ l8 l6) else (FM_ear_168 σ l8 l7)) else (gd (¬ (l9 : Int32) = 0) (nm (l8 - l8 / l9 * l9) fun (x22 : Int32) => (FM_ear_133 n) σ l5 l6 l7 l9 x22))
def FM_ear (σ : MS) (a1 : Int32) (a2 : Int32) (a3 : Int32) (a4 : Int32) (a5 : Int32) : Option (Int32 × MS) :=
  nm (setF σ 0 0) fun (σ1 : MS) => Option.bind (FM_in (Int32.toInt64 a1) 0 10) fun (r2 : Int32) => if r2 = 0 then (some ((-1000001), σ1)) else (Option.bind (FM_in (Int32.toInt64 a2) 0 10) fun (r4 : Int32) => if r4 = 0 then (some ((-1000001), σ1)) else (Option.bind (FM_in (Int32.toInt64 a3) 0 3) fun (r6 : Int32) => if r6 = 0 then (some ((-1000001), σ1)) else (Option.bind (FM_in (Int32.toInt64 a4) 0 (Int32.toInt64 a3)) fun (r8 : Int32) => if r8 = 0 then (some ((-1000001), σ1)) else (Option.bind (FM_in (Int32.toInt64 a5) 0 1) fun (r10 : Int32) => if r10 = 0 then (some ((-1000001), σ1)) else (Option.bind (FM_timesOf (10 - a2) a4) fun (r12 : Int32) => Option.bind (FM_timesOf a2 (a3 - a4)) fun (r13 : Int32) => nm ((a1 * r12) * r13) fun (x14 : Int32) => Option.bind (FM_timesOf a2 a4) fun (r15 : Int32) => Option.bind (FM_timesOf (10 - a2) (a3 - a4)) fun (r16 : Int32) => nm (x14 + (((10 - a1) * r15) * r16)) fun (x17 : Int32) => if x17 = 0 then (some (a5, σ1)) else (FM_ear_133 fuelN σ1 a5 x14 x17 x14 x17))))))
set_option maxHeartbeats 4000000 in
set_option maxRecDepth 100000 in
theorem kM_ear (l : Launch) (D : va_G) (h : Nat → Nat) (cI cZ : ClassId) (σ : MS) (a1 : Int32) (a2 : Int32) (a3 : Int32) (a4 : Int32) (a5 : Int32) (r : Int32) (σ' : MS) (hf : FM_ear σ a1 a2 a3 a4 a5 = some (r, σ')) : KK l D [(cI, .int), (cZ, .boolean)] yX9_ear wsX9_ear 1 25 [.ref (h 0), .int a1, .int a2, .int a3, .int a4, .int a5] (mw h cI cZ σ) (some (.int r)) (mw h cI cZ σ') := by
  refine KK.ofI (own := RX9) (cc := cX9_ear) (maxL := 11) (by decide) rfl rfl (Nat.le_of_ble_eq_true rfl) ?_
  intro p e s m args below meth c R Q A ls S hRf hRl hK hA hP hD hS hl hret
  obtain ⟨hx, hb, hml, hown, hts⟩ := id S
  have hin : ∀ w ∈ wsX90, w ∈ wsX9_ear := fun w hw => List.mem_cons_of_mem _ (List.mem_append_right _ hw)
  have f47 := hts (.fieldLink RX9 47 "PenniesAwayModel" "thrown" "I") (by decide +kernel)
  have c240 := hts (.constantLong RX9 240 (10)) (by decide +kernel)
  have c67 := hts (.constant RX9 67 (-1000001)) (by decide +kernel)
  have c268 := hts (.constantLong RX9 268 (3)) (by decide +kernel)
  have hl : lv_has ls 11 [(0, .ref (h 0)), (1, .int a1), (2, .int a2), (3, .int a3), (4, .int a4), (5, .int a5)] := hl
  have hre : ∀ (x : Int32) (σx : MS) (pc : Nat) (ls : Array Slot) (H : Heap) (locs : List Loc), (some (x, σx) : Option (Int32 × MS)) = some (r, σ') → va_P D vwCl (mw h cI cZ σx) H → va_D A (mw h cI cZ σx) → va_S A s.heap H locs → decode cX9_ear pc = .ok (.ireturn, 1) → W p l e R s m args below meth c H locs 0 0 Q (F0 m pc ls [.int x]) := by intro x σx pc ls H locs he; cases he; exact hret pc ls H locs
  have b168 : ∀ (σ : MS) (l8 : Int32) (s0 : Int32) (ls : Array Slot) (H : Heap) (locs : List Loc), FM_ear_168 σ l8 s0 = some (r, σ') → lv_has ls 11 [(8, .int l8)] → va_P D vwCl (mw h cI cZ σ) H → va_D A (mw h cI cZ σ) → va_S A s.heap H locs → W p l e R s m args below meth c H locs 0 0 Q (F0 m 168 ls [.int s0]) := by
    intro σ l8 s0 ls H locs hf hl hP hD hS
    unfold FM_ear_168 at hf
    refine lv_iload hx hb dX9_ear_168 (lv_at hl 0 rfl) ?_
    obtain ⟨g23, hf⟩ := gd_some hf
    refine lv_idiv hx hb dX9_ear_170 g23 ?_
    exact hre _ _ _ _ _ _ hf hP hD hS dX9_ear_171
  have b133 : ∀ (n : Nat), ∀ (σ : MS) (l5 : Int32) (l6 : Int32) (l7 : Int32) (l8 : Int32) (l9 : Int32) (ls : Array Slot) (H : Heap) (locs : List Loc), FM_ear_133 n σ l5 l6 l7 l8 l9 = some (r, σ') → lv_has ls 11 [(5, .int l5), (6, .int l6), (7, .int l7), (8, .int l8), (9, .int l9)] → va_P D vwCl (mw h cI cZ σ) H → va_D A (mw h cI cZ σ) → va_S A s.heap H locs → W p l e R s m args below meth c H locs 0 0 Q (F0 m 133 ls []) := by
    intro n
    induction n with
    | zero => intro σ l5 l6 l7 l8 l9 ls H locs hf; exact absurd hf (by simp [FM_ear_133])
    | succ n ih =>
      intro σ l5 l6 l7 l8 l9 ls H locs hf hl hP hD hS
      rw [FM_ear_133] at hf
      refine lv_iload hx hb dX9_ear_133 (lv_at hl 4 rfl) ?_
      refine lv_if_eq (tgt := 156) hx hb dX9_ear_135 (by decide) (fun c19 => ?_) (fun c19 => ?_)
      · have hf := (if_pos c19).symm.trans hf
        refine lv_iload hx hb dX9_ear_156 (lv_at hl 0 rfl) ?_
        refine lv_if_ne (tgt := 166) hx hb dX9_ear_158 (by decide) (fun c20 => ?_) (fun c20 => ?_)
        · have hf := (if_neg c20).symm.trans hf
          refine lv_iload hx hb dX9_ear_166 (lv_at hl 2 rfl) ?_
          exact b168 _ _ _ _ _ _ hf (lv_sub hl [3] rfl) hP hD hS
        · have hf := (if_pos c20).symm.trans hf
          refine lv_iload hx hb dX9_ear_161 (lv_at hl 1 rfl) ?_
          refine lv_goto (tgt := 168) hx hb dX9_ear_163 (by decide) ?_
          exact b168 _ _ _ _ _ _ hf (lv_sub hl [3] rfl) hP hD hS
      · have hf := (if_neg c19).symm.trans hf
        refine lv_iload hx hb dX9_ear_138 (lv_at hl 3 rfl) ?_
        refine lv_iload hx hb dX9_ear_140 (lv_at hl 4 rfl) ?_
        obtain ⟨g21, hf⟩ := gd_some hf
        refine lv_irem hx hb dX9_ear_142 g21 ?_
        refine lv_topi (fun x22 ex22 => ?_)
        have hf := nm_at ex22 hf
        refine lv_istore (lv' := [(10, .int x22), (5, .int l5), (6, .int l6), (7, .int l7), (8, .int l8), (9, .int l9)]) hx hb dX9_ear_143 hl (by decide) rfl (fun ls hl => ?_)
        refine lv_iload hx hb dX9_ear_145 (lv_at hl 5 rfl) ?_
        refine lv_istore (lv' := [(8, .int l9), (10, .int x22), (5, .int l5), (6, .int l6), (7, .int l7), (9, .int l9)]) hx hb dX9_ear_147 hl (by decide) rfl (fun ls hl => ?_)
        refine lv_iload hx hb dX9_ear_149 (lv_at hl 1 rfl) ?_
        refine lv_istore (lv' := [(9, .int x22), (8, .int l9), (10, .int x22), (5, .int l5), (6, .int l6), (7, .int l7)]) hx hb dX9_ear_151 hl (by decide) rfl (fun ls hl => ?_)
        refine lv_goto (tgt := 133) hx hb dX9_ear_153 (by decide) ?_
        exact ih _ _ _ _ _ _ _ _ _ hf (lv_sub hl [3, 4, 5, 1, 0] rfl) hP hD hS
  unfold FM_ear at hf
  refine lv_aload_n hx hb dX9_ear_0 rfl (lv_at hl 0 rfl) ?_
  refine lv_iconst (v := 0) hx hb dX9_ear_1 (by decide) ?_
  refine Mp_0 S hin hK hP hD hS f47 dX9_ear_2 (fun H locs hP hD hS => ?_)
  obtain ⟨σ1, eσ1, hf⟩ := nm_some hf
  rw [← eσ1] at hP hD
  refine lv_iload_n hx hb dX9_ear_5 rfl (lv_at hl 1 rfl) ?_
  refine lv_i2l hx hb dX9_ear_6 rfl ?_
  refine lv_lconst (v := 0) hx hb dX9_ear_7 (by decide) ?_
  refine lv_ldc2 (v := 10) hx hb hown c240 dX9_ear_8 ?_
  obtain ⟨r2, hr2, hf⟩ := bi_some hf
  refine kc_s (n := 3) S hRf hRl hK hA hP hD hS hl [.long (Int32.toInt64 a1), .long 0, .long 10] [] (kM_in l D _ _ (Int32.toInt64 a1) 0 10 r2 hr2) gX9_ear_X9_in rfl (by decide +kernel) rfl ⟨by decide, by decide⟩ rfl (Nat.le_of_ble_eq_true rfl) dX9_ear_11 (fun H locs hP hD hS => ?_)
  refine W.eq (g2 := F0 m 14 ls [.int r2]) rfl ?_
  refine lv_if_eq (tgt := 64) hx hb dX9_ear_14 (by decide) (fun c3 => ?_) (fun c3 => ?_)
  · have hf := (if_pos c3).symm.trans hf
    refine lv_ldc (v := (-1000001)) hx hb hown c67 dX9_ear_64 ?_
    exact hre _ _ _ _ _ _ hf hP hD hS dX9_ear_66
  · have hf := (if_neg c3).symm.trans hf
    refine lv_iload_n hx hb dX9_ear_17 rfl (lv_at hl 2 rfl) ?_
    refine lv_i2l hx hb dX9_ear_18 rfl ?_
    refine lv_lconst (v := 0) hx hb dX9_ear_19 (by decide) ?_
    refine lv_ldc2 (v := 10) hx hb hown c240 dX9_ear_20 ?_
    obtain ⟨r4, hr4, hf⟩ := bi_some hf
    refine kc_s (n := 3) S hRf hRl hK hA hP hD hS hl [.long (Int32.toInt64 a2), .long 0, .long 10] [] (kM_in l D _ _ (Int32.toInt64 a2) 0 10 r4 hr4) gX9_ear_X9_in rfl (by decide +kernel) rfl ⟨by decide, by decide⟩ rfl (Nat.le_of_ble_eq_true rfl) dX9_ear_23 (fun H locs hP hD hS => ?_)
    refine W.eq (g2 := F0 m 26 ls [.int r4]) rfl ?_
    refine lv_if_eq (tgt := 64) hx hb dX9_ear_26 (by decide) (fun c5 => ?_) (fun c5 => ?_)
    · have hf := (if_pos c5).symm.trans hf
      refine lv_ldc (v := (-1000001)) hx hb hown c67 dX9_ear_64 ?_
      exact hre _ _ _ _ _ _ hf hP hD hS dX9_ear_66
    · have hf := (if_neg c5).symm.trans hf
      refine lv_iload_n hx hb dX9_ear_29 rfl (lv_at hl 3 rfl) ?_
      refine lv_i2l hx hb dX9_ear_30 rfl ?_
      refine lv_lconst (v := 0) hx hb dX9_ear_31 (by decide) ?_
      refine lv_ldc2 (v := 3) hx hb hown c268 dX9_ear_32 ?_
      obtain ⟨r6, hr6, hf⟩ := bi_some hf
      refine kc_s (n := 3) S hRf hRl hK hA hP hD hS hl [.long (Int32.toInt64 a3), .long 0, .long 3] [] (kM_in l D _ _ (Int32.toInt64 a3) 0 3 r6 hr6) gX9_ear_X9_in rfl (by decide +kernel) rfl ⟨by decide, by decide⟩ rfl (Nat.le_of_ble_eq_true rfl) dX9_ear_35 (fun H locs hP hD hS => ?_)
      refine W.eq (g2 := F0 m 38 ls [.int r6]) rfl ?_
      refine lv_if_eq (tgt := 64) hx hb dX9_ear_38 (by decide) (fun c7 => ?_) (fun c7 => ?_)
      · have hf := (if_pos c7).symm.trans hf
        refine lv_ldc (v := (-1000001)) hx hb hown c67 dX9_ear_64 ?_
        exact hre _ _ _ _ _ _ hf hP hD hS dX9_ear_66
      · have hf := (if_neg c7).symm.trans hf
        refine lv_iload hx hb dX9_ear_41 (lv_at hl 4 rfl) ?_
        refine lv_i2l hx hb dX9_ear_43 rfl ?_
        refine lv_lconst (v := 0) hx hb dX9_ear_44 (by decide) ?_
        refine lv_iload_n hx hb dX9_ear_45 rfl (lv_at hl 3 rfl) ?_
        refine lv_i2l hx hb dX9_ear_46 rfl ?_
        obtain ⟨r8, hr8, hf⟩ := bi_some hf
        refine kc_s (n := 3) S hRf hRl hK hA hP hD hS hl [.long (Int32.toInt64 a4), .long 0, .long (Int32.toInt64 a3)] [] (kM_in l D _ _ (Int32.toInt64 a4) 0 (Int32.toInt64 a3) r8 hr8) gX9_ear_X9_in rfl (by decide +kernel) rfl ⟨by decide, by decide⟩ rfl (Nat.le_of_ble_eq_true rfl) dX9_ear_47 (fun H locs hP hD hS => ?_)
        refine W.eq (g2 := F0 m 50 ls [.int r8]) rfl ?_
        refine lv_if_eq (tgt := 64) hx hb dX9_ear_50 (by decide) (fun c9 => ?_) (fun c9 => ?_)
        · have hf := (if_pos c9).symm.trans hf
          refine lv_ldc (v := (-1000001)) hx hb hown c67 dX9_ear_64 ?_
          exact hre _ _ _ _ _ _ hf hP hD hS dX9_ear_66
        · have hf := (if_neg c9).symm.trans hf
          refine lv_iload hx hb dX9_ear_53 (lv_at hl 5 rfl) ?_
          refine lv_i2l hx hb dX9_ear_55 rfl ?_
          refine lv_lconst (v := 0) hx hb dX9_ear_56 (by decide) ?_
          refine lv_lconst (v := 1) hx hb dX9_ear_57 (by decide) ?_
          obtain ⟨r10, hr10, hf⟩ := bi_some hf
          refine kc_s (n := 3) S hRf hRl hK hA hP hD hS hl [.long (Int32.toInt64 a5), .long 0, .long 1] [] (kM_in l D _ _ (Int32.toInt64 a5) 0 1 r10 hr10) gX9_ear_X9_in rfl (by decide +kernel) rfl ⟨by decide, by decide⟩ rfl (Nat.le_of_ble_eq_true rfl) dX9_ear_58 (fun H locs hP hD hS => ?_)
          refine W.eq (g2 := F0 m 61 ls [.int r10]) rfl ?_
          refine lv_if_ne (tgt := 67) hx hb dX9_ear_61 (by decide) (fun c11 => ?_) (fun c11 => ?_)
          · have hf := (if_neg c11).symm.trans hf
            refine lv_iload_n hx hb dX9_ear_67 rfl (lv_at hl 1 rfl) ?_
            refine lv_bipush (v := 10) hx hb dX9_ear_68 (by decide) ?_
            refine lv_iload_n hx hb dX9_ear_70 rfl (lv_at hl 2 rfl) ?_
            refine lv_isub hx hb dX9_ear_71 ?_
            refine lv_iload hx hb dX9_ear_72 (lv_at hl 4 rfl) ?_
            obtain ⟨r12, hr12, hf⟩ := bi_some hf
            refine kc_s (n := 2) S hRf hRl hK hA hP hD hS hl [.int (10 - a2), .int a4] [.int a1] (kM_timesOf l D _ _ (10 - a2) a4 r12 hr12) gX9_ear_X9_timesOf rfl (by decide +kernel) rfl ⟨by decide, by decide⟩ rfl (Nat.le_of_ble_eq_true rfl) dX9_ear_74 (fun H locs hP hD hS => ?_)
            refine W.eq (g2 := F0 m 77 ls [.int r12, .int a1]) rfl ?_
            refine lv_imul hx hb dX9_ear_77 ?_
            refine lv_iload_n hx hb dX9_ear_78 rfl (lv_at hl 2 rfl) ?_
            refine lv_iload_n hx hb dX9_ear_79 rfl (lv_at hl 3 rfl) ?_
            refine lv_iload hx hb dX9_ear_80 (lv_at hl 4 rfl) ?_
            refine lv_isub hx hb dX9_ear_82 ?_
            obtain ⟨r13, hr13, hf⟩ := bi_some hf
            refine kc_s (n := 2) S hRf hRl hK hA hP hD hS hl [.int a2, .int (a3 - a4)] [.int (a1 * r12)] (kM_timesOf l D _ _ a2 (a3 - a4) r13 hr13) gX9_ear_X9_timesOf rfl (by decide +kernel) rfl ⟨by decide, by decide⟩ rfl (Nat.le_of_ble_eq_true rfl) dX9_ear_83 (fun H locs hP hD hS => ?_)
            refine W.eq (g2 := F0 m 86 ls [.int r13, .int (a1 * r12)]) rfl ?_
            refine lv_imul hx hb dX9_ear_86 ?_
            refine lv_topi (fun x14 ex14 => ?_)
            have hf := nm_at ex14 hf
            refine lv_istore (lv' := [(6, .int x14), (0, .ref (h 0)), (1, .int a1), (2, .int a2), (3, .int a3), (4, .int a4), (5, .int a5)]) hx hb dX9_ear_87 hl (by decide) rfl (fun ls hl => ?_)
            refine lv_iload hx hb dX9_ear_89 (lv_at hl 0 rfl) ?_
            refine lv_bipush (v := 10) hx hb dX9_ear_91 (by decide) ?_
            refine lv_iload_n hx hb dX9_ear_93 rfl (lv_at hl 2 rfl) ?_
            refine lv_isub hx hb dX9_ear_94 ?_
            refine lv_iload_n hx hb dX9_ear_95 rfl (lv_at hl 3 rfl) ?_
            refine lv_iload hx hb dX9_ear_96 (lv_at hl 5 rfl) ?_
            obtain ⟨r15, hr15, hf⟩ := bi_some hf
            refine kc_s (n := 2) S hRf hRl hK hA hP hD hS hl [.int a2, .int a4] [.int (10 - a1), .int x14] (kM_timesOf l D _ _ a2 a4 r15 hr15) gX9_ear_X9_timesOf rfl (by decide +kernel) rfl ⟨by decide, by decide⟩ rfl (Nat.le_of_ble_eq_true rfl) dX9_ear_98 (fun H locs hP hD hS => ?_)
            refine W.eq (g2 := F0 m 101 ls [.int r15, .int (10 - a1), .int x14]) rfl ?_
            refine lv_imul hx hb dX9_ear_101 ?_
            refine lv_bipush (v := 10) hx hb dX9_ear_102 (by decide) ?_
            refine lv_iload_n hx hb dX9_ear_104 rfl (lv_at hl 3 rfl) ?_
            refine lv_isub hx hb dX9_ear_105 ?_
            refine lv_iload_n hx hb dX9_ear_106 rfl (lv_at hl 4 rfl) ?_
            refine lv_iload hx hb dX9_ear_107 (lv_at hl 5 rfl) ?_
            refine lv_isub hx hb dX9_ear_109 ?_
            obtain ⟨r16, hr16, hf⟩ := bi_some hf
            refine kc_s (n := 2) S hRf hRl hK hA hP hD hS hl [.int (10 - a2), .int (a3 - a4)] [.int ((10 - a1) * r15), .int x14] (kM_timesOf l D _ _ (10 - a2) (a3 - a4) r16 hr16) gX9_ear_X9_timesOf rfl (by decide +kernel) rfl ⟨by decide, by decide⟩ rfl (Nat.le_of_ble_eq_true rfl) dX9_ear_110 (fun H locs hP hD hS => ?_)
            refine W.eq (g2 := F0 m 113 ls [.int r16, .int ((10 - a1) * r15), .int x14]) rfl ?_
            refine lv_imul hx hb dX9_ear_113 ?_
            refine lv_iadd hx hb dX9_ear_114 ?_
            refine lv_topi (fun x17 ex17 => ?_)
            have hf := nm_at ex17 hf
            refine lv_istore (lv' := [(7, .int x17), (6, .int x14), (0, .ref (h 0)), (1, .int a1), (2, .int a2), (3, .int a3), (4, .int a4), (5, .int a5)]) hx hb dX9_ear_115 hl (by decide) rfl (fun ls hl => ?_)
            refine lv_iload hx hb dX9_ear_117 (lv_at hl 0 rfl) ?_
            refine lv_if_ne (tgt := 125) hx hb dX9_ear_119 (by decide) (fun c18 => ?_) (fun c18 => ?_)
            · have hf := (if_neg c18).symm.trans hf
              refine lv_iload hx hb dX9_ear_125 (lv_at hl 1 rfl) ?_
              refine lv_istore (lv' := [(8, .int x14), (7, .int x17), (6, .int x14), (0, .ref (h 0)), (1, .int a1), (2, .int a2), (3, .int a3), (4, .int a4), (5, .int a5)]) hx hb dX9_ear_127 hl (by decide) rfl (fun ls hl => ?_)
              refine lv_iload hx hb dX9_ear_129 (lv_at hl 1 rfl) ?_
              refine lv_istore (lv' := [(9, .int x17), (8, .int x14), (7, .int x17), (6, .int x14), (0, .ref (h 0)), (1, .int a1), (2, .int a2), (3, .int a3), (4, .int a4), (5, .int a5)]) hx hb dX9_ear_131 hl (by decide) rfl (fun ls hl => ?_)
              exact b133 fuelN _ _ _ _ _ _ _ _ _ hf (lv_sub hl [9, 3, 2, 1, 0] rfl) hP hD hS
            · have hf := (if_pos c18).symm.trans hf
              refine lv_iload hx hb dX9_ear_122 (lv_at hl 7 rfl) ?_
              exact hre _ _ _ _ _ _ hf hP hD hS dX9_ear_124
          · have hf := (if_pos c11).symm.trans hf
            refine lv_ldc (v := (-1000001)) hx hb hown c67 dX9_ear_64 ?_
            exact hre _ _ _ _ _ _ hf hP hD hS dX9_ear_66
def FM_image_30  : Nat → MS → Int32 → Int32 → Option (Int32 × MS)
  | 0, _, _, _ => none
  | n + 1, σ, l1, l2 => if 147 ≤ l2 then (gd (¬ ((l1 : Int32) < 0 ∨ 2 ≤ Int32.toNatClampNeg l1)) (nm (setA σ 22 (Int32.toNatClampNeg l1) 1) fun (σ7 : MS) => some (1, σ7))) else (gd (¬ ((l2 : Int32) < 0 ∨ 147 ≤ Int32.toNatClampNeg l2)) (gd (¬ ((((147 * l1) + l2) : Int32) < 0 ∨ 294 ≤ Int32.toNatClampNeg ((147 * l1) + l2))) (nm (setA σ 23 (Int32.toNatClampNeg ((147 * l1) + l2)) (σ.2 5 (Int32.toNatClampNeg l2))) fun (σ10 : MS) => nm (l2 + 1) fun (x11 : Int32) => (FM_image_30 n) σ10 l1 x11)))
def FM_image (σ : MS) (a1 : Int32) : Option (Int32 × MS) :=
  nm (setF σ 0 0) fun (σ1 : MS) => Option.bind (FM_in (Int32.toInt64 a1) 0 1) fun (r2 : Int32) => if r2 = 0 then (some ((-1000001), σ1)) else (if (σ1.1 7) = 0 then (some ((-1000002), σ1)) else (FM_image_30 fuelN σ1 a1 0))
set_option maxHeartbeats 4000000 in
set_option maxRecDepth 100000 in
theorem kM_image (l : Launch) (D : va_G) (h : Nat → Nat) (cI cZ : ClassId) (σ : MS) (a1 : Int32) (r : Int32) (σ' : MS) (hf : FM_image σ a1 = some (r, σ')) : KK l D [(cI, .int), (cZ, .boolean)] yX9_image wsX9_image 1 25 [.ref (h 0), .int a1] (mw h cI cZ σ) (some (.int r)) (mw h cI cZ σ') := by
  refine KK.ofI (own := RX9) (cc := cX9_image) (maxL := 3) (by decide) rfl rfl (Nat.le_of_ble_eq_true rfl) ?_
  intro p e s m args below meth c R Q A ls S hRf hRl hK hA hP hD hS hl hret
  obtain ⟨hx, hb, hml, hown, hts⟩ := id S
  have hin : ∀ w ∈ wsX90, w ∈ wsX9_image := fun w hw => List.mem_cons_of_mem _ (List.mem_append_right _ hw)
  have f47 := hts (.fieldLink RX9 47 "PenniesAwayModel" "thrown" "I") (by decide +kernel)
  have f179 := hts (.fieldLink RX9 179 "PenniesAwayModel" "isThere" "Z") (by decide +kernel)
  have c210 := hts (.constant RX9 210 (-1000002)) (by decide +kernel)
  have c67 := hts (.constant RX9 67 (-1000001)) (by decide +kernel)
  have f37 := hts (.fieldLink RX9 37 "PenniesAwayModel" "isKept" "[Z") (by decide +kernel)
  have f41 := hts (.fieldLink RX9 41 "PenniesAwayModel" "kept" "[I") (by decide +kernel)
  have f19 := hts (.fieldLink RX9 19 "PenniesAwayModel" "realm" "[I") (by decide +kernel)
  have hl : lv_has ls 3 [(0, .ref (h 0)), (1, .int a1)] := hl
  have hre : ∀ (x : Int32) (σx : MS) (pc : Nat) (ls : Array Slot) (H : Heap) (locs : List Loc), (some (x, σx) : Option (Int32 × MS)) = some (r, σ') → va_P D vwCl (mw h cI cZ σx) H → va_D A (mw h cI cZ σx) → va_S A s.heap H locs → decode cX9_image pc = .ok (.ireturn, 1) → W p l e R s m args below meth c H locs 0 0 Q (F0 m pc ls [.int x]) := by intro x σx pc ls H locs he; cases he; exact hret pc ls H locs
  have b30 : ∀ (n : Nat), ∀ (σ : MS) (l1 : Int32) (l2 : Int32) (ls : Array Slot) (H : Heap) (locs : List Loc), FM_image_30 n σ l1 l2 = some (r, σ') → lv_has ls 3 [(0, .ref (h 0)), (1, .int l1), (2, .int l2)] → va_P D vwCl (mw h cI cZ σ) H → va_D A (mw h cI cZ σ) → va_S A s.heap H locs → W p l e R s m args below meth c H locs 0 0 Q (F0 m 30 ls []) := by
    intro n
    induction n with
    | zero => intro σ l1 l2 ls H locs hf; exact absurd hf (by simp [FM_image_30])
    | succ n ih =>
      intro σ l1 l2 ls H locs hf hl hP hD hS
      rw [FM_image_30] at hf
      refine lv_iload_n hx hb dX9_image_30 rfl (lv_at hl 2 rfl) ?_
      refine lv_sipush (v := 147) hx hb dX9_image_31 (by decide) ?_
      refine lv_icmp_ge (tgt := 61) hx hb dX9_image_34 (by decide) (fun c5 => ?_) (fun c5 => ?_)
      · have hf := (if_pos c5).symm.trans hf
        refine lv_aload_n hx hb dX9_image_61 rfl (lv_at hl 0 rfl) ?_
        refine Mg_22 S hin hK hP f37 dX9_image_62 ?_
        refine lv_iload_n hx hb dX9_image_65 rfl (lv_at hl 1 rfl) ?_
        refine lv_iconst (v := 1) hx hb dX9_image_66 (by decide) ?_
        obtain ⟨g6, hf⟩ := gd_some hf
        refine Ms_22 S hK hP hD hS g6 rfl dX9_image_67 (fun H locs hP hD hS => ?_)
        obtain ⟨σ7, eσ7, hf⟩ := nm_some hf
        rw [← eσ7] at hP hD
        refine lv_iconst (v := 1) hx hb dX9_image_68 (by decide) ?_
        exact hre _ _ _ _ _ _ hf hP hD hS dX9_image_69
      · have hf := (if_neg c5).symm.trans hf
        refine lv_aload_n hx hb dX9_image_37 rfl (lv_at hl 0 rfl) ?_
        refine Mg_23 S hin hK hP f41 dX9_image_38 ?_
        refine lv_sipush (v := 147) hx hb dX9_image_41 (by decide) ?_
        refine lv_iload_n hx hb dX9_image_44 rfl (lv_at hl 1 rfl) ?_
        refine lv_imul hx hb dX9_image_45 ?_
        refine lv_iload_n hx hb dX9_image_46 rfl (lv_at hl 2 rfl) ?_
        refine lv_iadd hx hb dX9_image_47 ?_
        refine lv_aload_n hx hb dX9_image_48 rfl (lv_at hl 0 rfl) ?_
        refine Mg_5 S hin hK hP f19 dX9_image_49 ?_
        refine lv_iload_n hx hb dX9_image_52 rfl (lv_at hl 2 rfl) ?_
        obtain ⟨g8, hf⟩ := gd_some hf
        refine Ml_5 S hK hP g8 dX9_image_53 ?_
        obtain ⟨g9, hf⟩ := gd_some hf
        refine Ms_23 S hK hP hD hS g9 dX9_image_54 (fun H locs hP hD hS => ?_)
        obtain ⟨σ10, eσ10, hf⟩ := nm_some hf
        rw [← eσ10] at hP hD
        obtain ⟨x11, ex11, hf⟩ := nm_some hf
        refine lv_iinc (v := x11) (lv' := [(2, .int x11), (0, .ref (h 0)), (1, .int l1)]) hx hb dX9_image_55 hl (k := 2) rfl (by rw [ex11]; rfl) (by decide) rfl (fun ls hl => ?_)
        refine lv_goto (tgt := 30) hx hb dX9_image_58 (by decide) ?_
        exact ih _ _ _ _ _ _ hf (lv_sub hl [1, 2, 0] rfl) hP hD hS
  unfold FM_image at hf
  refine lv_aload_n hx hb dX9_image_0 rfl (lv_at hl 0 rfl) ?_
  refine lv_iconst (v := 0) hx hb dX9_image_1 (by decide) ?_
  refine Mp_0 S hin hK hP hD hS f47 dX9_image_2 (fun H locs hP hD hS => ?_)
  obtain ⟨σ1, eσ1, hf⟩ := nm_some hf
  rw [← eσ1] at hP hD
  refine lv_iload_n hx hb dX9_image_5 rfl (lv_at hl 1 rfl) ?_
  refine lv_i2l hx hb dX9_image_6 rfl ?_
  refine lv_lconst (v := 0) hx hb dX9_image_7 (by decide) ?_
  refine lv_lconst (v := 1) hx hb dX9_image_8 (by decide) ?_
  obtain ⟨r2, hr2, hf⟩ := bi_some hf
  refine kc_s (n := 3) S hRf hRl hK hA hP hD hS hl [.long (Int32.toInt64 a1), .long 0, .long 1] [] (kM_in l D _ _ (Int32.toInt64 a1) 0 1 r2 hr2) gX9_image_X9_in rfl (by decide +kernel) rfl ⟨by decide, by decide⟩ rfl (Nat.le_of_ble_eq_true rfl) dX9_image_9 (fun H locs hP hD hS => ?_)
  refine W.eq (g2 := F0 m 12 ls [.int r2]) rfl ?_
  refine lv_if_ne (tgt := 18) hx hb dX9_image_12 (by decide) (fun c3 => ?_) (fun c3 => ?_)
  · have hf := (if_neg c3).symm.trans hf
    refine lv_aload_n hx hb dX9_image_18 rfl (lv_at hl 0 rfl) ?_
    refine Mg_7 S hin hK hP f179 dX9_image_19 ?_
    refine lv_if_ne (tgt := 28) hx hb dX9_image_22 (by decide) (fun c4 => ?_) (fun c4 => ?_)
    · have hf := (if_neg c4).symm.trans hf
      refine lv_iconst (v := 0) hx hb dX9_image_28 (by decide) ?_
      refine lv_istore_n (lv' := [(2, .int 0), (0, .ref (h 0)), (1, .int a1)]) hx hb dX9_image_29 rfl hl (by decide) rfl (fun ls hl => ?_)
      exact b30 fuelN _ _ _ _ _ _ hf (lv_sub hl [1, 2, 0] rfl) hP hD hS
    · have hf := (if_pos c4).symm.trans hf
      refine lv_ldc (v := (-1000002)) hx hb hown c210 dX9_image_25 ?_
      exact hre _ _ _ _ _ _ hf hP hD hS dX9_image_27
  · have hf := (if_pos c3).symm.trans hf
    refine lv_ldc (v := (-1000001)) hx hb hown c67 dX9_image_15 ?_
    exact hre _ _ _ _ _ _ hf hP hD hS dX9_image_17
def FM_restore_32  : Nat → MS → Int32 → Int32 → Option (Int32 × MS)
  | 0, _, _, _ => none
  | n + 1, σ, l1, l2 => if 147 ≤ l2 then (nm (setF σ 9 0) fun (σ7 : MS) => some (1, σ7)) else (gd (¬ ((((147 * l1) + l2) : Int32) < 0 ∨ 294 ≤ Int32.toNatClampNeg ((147 * l1) + l2))) (gd (¬ ((l2 : Int32) < 0 ∨ 147 ≤ Int32.toNatClampNeg l2)) (nm (setA σ 5 (Int32.toNatClampNeg l2) (σ.2 23 (Int32.toNatClampNeg ((147 * l1) + l2)))) fun (σ10 : MS) => nm (l2 + 1) fun (x11 : Int32) => (FM_restore_32 n) σ10 l1 x11)))
def FM_restore (σ : MS) (a1 : Int32) : Option (Int32 × MS) :=
  nm (setF σ 0 0) fun (σ1 : MS) => Option.bind (FM_in (Int32.toInt64 a1) 0 1) fun (r2 : Int32) => if r2 = 0 then (some ((-1000001), σ1)) else (gd (¬ ((a1 : Int32) < 0 ∨ 2 ≤ Int32.toNatClampNeg a1)) (if (σ1.2 22 (Int32.toNatClampNeg a1)) = 0 then (some ((-1000002), σ1)) else (FM_restore_32 fuelN σ1 a1 0)))
set_option maxHeartbeats 4000000 in
set_option maxRecDepth 100000 in
theorem kM_restore (l : Launch) (D : va_G) (h : Nat → Nat) (cI cZ : ClassId) (σ : MS) (a1 : Int32) (r : Int32) (σ' : MS) (hf : FM_restore σ a1 = some (r, σ')) : KK l D [(cI, .int), (cZ, .boolean)] yX9_restore wsX9_restore 1 25 [.ref (h 0), .int a1] (mw h cI cZ σ) (some (.int r)) (mw h cI cZ σ') := by
  refine KK.ofI (own := RX9) (cc := cX9_restore) (maxL := 3) (by decide) rfl rfl (Nat.le_of_ble_eq_true rfl) ?_
  intro p e s m args below meth c R Q A ls S hRf hRl hK hA hP hD hS hl hret
  obtain ⟨hx, hb, hml, hown, hts⟩ := id S
  have hin : ∀ w ∈ wsX90, w ∈ wsX9_restore := fun w hw => List.mem_cons_of_mem _ (List.mem_append_right _ hw)
  have f47 := hts (.fieldLink RX9 47 "PenniesAwayModel" "thrown" "I") (by decide +kernel)
  have f37 := hts (.fieldLink RX9 37 "PenniesAwayModel" "isKept" "[Z") (by decide +kernel)
  have c210 := hts (.constant RX9 210 (-1000002)) (by decide +kernel)
  have c67 := hts (.constant RX9 67 (-1000001)) (by decide +kernel)
  have f183 := hts (.fieldLink RX9 183 "PenniesAwayModel" "acts" "I") (by decide +kernel)
  have f19 := hts (.fieldLink RX9 19 "PenniesAwayModel" "realm" "[I") (by decide +kernel)
  have f41 := hts (.fieldLink RX9 41 "PenniesAwayModel" "kept" "[I") (by decide +kernel)
  have hl : lv_has ls 3 [(0, .ref (h 0)), (1, .int a1)] := hl
  have hre : ∀ (x : Int32) (σx : MS) (pc : Nat) (ls : Array Slot) (H : Heap) (locs : List Loc), (some (x, σx) : Option (Int32 × MS)) = some (r, σ') → va_P D vwCl (mw h cI cZ σx) H → va_D A (mw h cI cZ σx) → va_S A s.heap H locs → decode cX9_restore pc = .ok (.ireturn, 1) → W p l e R s m args below meth c H locs 0 0 Q (F0 m pc ls [.int x]) := by intro x σx pc ls H locs he; cases he; exact hret pc ls H locs
  have b32 : ∀ (n : Nat), ∀ (σ : MS) (l1 : Int32) (l2 : Int32) (ls : Array Slot) (H : Heap) (locs : List Loc), FM_restore_32 n σ l1 l2 = some (r, σ') → lv_has ls 3 [(0, .ref (h 0)), (1, .int l1), (2, .int l2)] → va_P D vwCl (mw h cI cZ σ) H → va_D A (mw h cI cZ σ) → va_S A s.heap H locs → W p l e R s m args below meth c H locs 0 0 Q (F0 m 32 ls []) := by
    intro n
    induction n with
    | zero => intro σ l1 l2 ls H locs hf; exact absurd hf (by simp [FM_restore_32])
    | succ n ih =>
      intro σ l1 l2 ls H locs hf hl hP hD hS
      rw [FM_restore_32] at hf
      refine lv_iload_n hx hb dX9_restore_32 rfl (lv_at hl 2 rfl) ?_
      refine lv_sipush (v := 147) hx hb dX9_restore_33 (by decide) ?_
      refine lv_icmp_ge (tgt := 63) hx hb dX9_restore_36 (by decide) (fun c6 => ?_) (fun c6 => ?_)
      · have hf := (if_pos c6).symm.trans hf
        refine lv_aload_n hx hb dX9_restore_63 rfl (lv_at hl 0 rfl) ?_
        refine lv_iconst (v := 0) hx hb dX9_restore_64 (by decide) ?_
        refine Mp_9 S hin hK hP hD hS f183 dX9_restore_65 (fun H locs hP hD hS => ?_)
        obtain ⟨σ7, eσ7, hf⟩ := nm_some hf
        rw [← eσ7] at hP hD
        refine lv_iconst (v := 1) hx hb dX9_restore_68 (by decide) ?_
        exact hre _ _ _ _ _ _ hf hP hD hS dX9_restore_69
      · have hf := (if_neg c6).symm.trans hf
        refine lv_aload_n hx hb dX9_restore_39 rfl (lv_at hl 0 rfl) ?_
        refine Mg_5 S hin hK hP f19 dX9_restore_40 ?_
        refine lv_iload_n hx hb dX9_restore_43 rfl (lv_at hl 2 rfl) ?_
        refine lv_aload_n hx hb dX9_restore_44 rfl (lv_at hl 0 rfl) ?_
        refine Mg_23 S hin hK hP f41 dX9_restore_45 ?_
        refine lv_sipush (v := 147) hx hb dX9_restore_48 (by decide) ?_
        refine lv_iload_n hx hb dX9_restore_51 rfl (lv_at hl 1 rfl) ?_
        refine lv_imul hx hb dX9_restore_52 ?_
        refine lv_iload_n hx hb dX9_restore_53 rfl (lv_at hl 2 rfl) ?_
        refine lv_iadd hx hb dX9_restore_54 ?_
        obtain ⟨g8, hf⟩ := gd_some hf
        refine Ml_23 S hK hP g8 dX9_restore_55 ?_
        obtain ⟨g9, hf⟩ := gd_some hf
        refine Ms_5 S hK hP hD hS g9 dX9_restore_56 (fun H locs hP hD hS => ?_)
        obtain ⟨σ10, eσ10, hf⟩ := nm_some hf
        rw [← eσ10] at hP hD
        obtain ⟨x11, ex11, hf⟩ := nm_some hf
        refine lv_iinc (v := x11) (lv' := [(2, .int x11), (0, .ref (h 0)), (1, .int l1)]) hx hb dX9_restore_57 hl (k := 2) rfl (by rw [ex11]; rfl) (by decide) rfl (fun ls hl => ?_)
        refine lv_goto (tgt := 32) hx hb dX9_restore_60 (by decide) ?_
        exact ih _ _ _ _ _ _ hf (lv_sub hl [1, 2, 0] rfl) hP hD hS
  unfold FM_restore at hf
  refine lv_aload_n hx hb dX9_restore_0 rfl (lv_at hl 0 rfl) ?_
  refine lv_iconst (v := 0) hx hb dX9_restore_1 (by decide) ?_
  refine Mp_0 S hin hK hP hD hS f47 dX9_restore_2 (fun H locs hP hD hS => ?_)
  obtain ⟨σ1, eσ1, hf⟩ := nm_some hf
  rw [← eσ1] at hP hD
  refine lv_iload_n hx hb dX9_restore_5 rfl (lv_at hl 1 rfl) ?_
  refine lv_i2l hx hb dX9_restore_6 rfl ?_
  refine lv_lconst (v := 0) hx hb dX9_restore_7 (by decide) ?_
  refine lv_lconst (v := 1) hx hb dX9_restore_8 (by decide) ?_
  obtain ⟨r2, hr2, hf⟩ := bi_some hf
  refine kc_s (n := 3) S hRf hRl hK hA hP hD hS hl [.long (Int32.toInt64 a1), .long 0, .long 1] [] (kM_in l D _ _ (Int32.toInt64 a1) 0 1 r2 hr2) gX9_restore_X9_in rfl (by decide +kernel) rfl ⟨by decide, by decide⟩ rfl (Nat.le_of_ble_eq_true rfl) dX9_restore_9 (fun H locs hP hD hS => ?_)
  refine W.eq (g2 := F0 m 12 ls [.int r2]) rfl ?_
  refine lv_if_ne (tgt := 18) hx hb dX9_restore_12 (by decide) (fun c3 => ?_) (fun c3 => ?_)
  · have hf := (if_neg c3).symm.trans hf
    refine lv_aload_n hx hb dX9_restore_18 rfl (lv_at hl 0 rfl) ?_
    refine Mg_22 S hin hK hP f37 dX9_restore_19 ?_
    refine lv_iload_n hx hb dX9_restore_22 rfl (lv_at hl 1 rfl) ?_
    obtain ⟨g4, hf⟩ := gd_some hf
    refine Ml_22 S hK hP g4 dX9_restore_23 ?_
    refine lv_if_ne (tgt := 30) hx hb dX9_restore_24 (by decide) (fun c5 => ?_) (fun c5 => ?_)
    · have hf := (if_neg c5).symm.trans hf
      refine lv_iconst (v := 0) hx hb dX9_restore_30 (by decide) ?_
      refine lv_istore_n (lv' := [(2, .int 0), (0, .ref (h 0)), (1, .int a1)]) hx hb dX9_restore_31 rfl hl (by decide) rfl (fun ls hl => ?_)
      exact b32 fuelN _ _ _ _ _ _ hf (lv_sub hl [1, 2, 0] rfl) hP hD hS
    · have hf := (if_pos c5).symm.trans hf
      refine lv_ldc (v := (-1000002)) hx hb hown c210 dX9_restore_27 ?_
      exact hre _ _ _ _ _ _ hf hP hD hS dX9_restore_29
  · have hf := (if_pos c3).symm.trans hf
    refine lv_ldc (v := (-1000001)) hx hb hown c67 dX9_restore_15 ?_
    exact hre _ _ _ _ _ _ hf hP hD hS dX9_restore_17
def FM_isOf_29   : Option Int32 :=
  some 1
def FM_isOf_19 (l0 : Int32) (l1 : Int32) : Option Int32 :=
  if l1 = 3 then (if l0 = 4 then (FM_isOf_29) else (some 0)) else (some 0)
def FM_isOf (a0 : Int32) (a1 : Int32) : Option Int32 :=
  if a1 = 0 then (FM_isOf_29) else (if a0 = a1 then (FM_isOf_29) else (if a1 = 1 then (if a0 < 5 then (FM_isOf_29) else (FM_isOf_19 a0 a1)) else (FM_isOf_19 a0 a1)))
set_option maxHeartbeats 4000000 in
set_option maxRecDepth 100000 in
theorem kM_isOf (l : Launch) (D : va_G) (tys : List (ClassId × FieldType)) (w0 : va_W) (a0 : Int32) (a1 : Int32) (r : Int32) (hf : FM_isOf a0 a1 = some r) : KK l D tys yX9_isOf wsX9_isOf 0 0 [.int a0, .int a1] w0 (some (.int r)) w0 := by
  refine KK.ofZ (own := RX9) (cc := cX9_isOf) (maxL := 2) (by decide) rfl rfl (Nat.le_of_ble_eq_true rfl) ?_
  intro p e s m args below meth c R Q A ls S hRf hRl hK hA hP hD hS hl hret
  obtain ⟨hx, hb, hml, hown, hts⟩ := id S
  have hl : lv_has ls 2 [(0, .int a0), (1, .int a1)] := hl
  have hre : ∀ (x : Int32) (pc : Nat) (ls : Array Slot) (H : Heap) (locs : List Loc), (some x : Option Int32) = some r → va_P D vwCl w0 H → va_D A w0 → va_S A s.heap H locs → decode cX9_isOf pc = .ok (.ireturn, 1) → narrow .boolean (.int x) = .int x → W p l e R s m args below meth c H locs 0 0 Q (F0 m pc ls [.int x]) := by intro x pc ls H locs he; cases he; exact hret pc ls H locs
  have b29 : ∀ (ls : Array Slot) (H : Heap) (locs : List Loc), FM_isOf_29  = some r → lv_has ls 2 [] → va_P D vwCl w0 H → va_D A w0 → va_S A s.heap H locs → W p l e R s m args below meth c H locs 0 0 Q (F0 m 29 ls []) := by
    intro  ls H locs hf hl hP hD hS
    unfold FM_isOf_29 at hf
    refine lv_iconst (v := 1) hx hb dX9_isOf_29 (by decide) ?_
    refine lv_goto (tgt := 34) hx hb dX9_isOf_30 (by decide) ?_
    exact hre _ _ _ _ _ hf hP hD hS dX9_isOf_34 rfl
  have b19 : ∀ (l0 : Int32) (l1 : Int32) (ls : Array Slot) (H : Heap) (locs : List Loc), FM_isOf_19 l0 l1 = some r → lv_has ls 2 [(0, .int l0), (1, .int l1)] → va_P D vwCl w0 H → va_D A w0 → va_S A s.heap H locs → W p l e R s m args below meth c H locs 0 0 Q (F0 m 19 ls []) := by
    intro l0 l1 ls H locs hf hl hP hD hS
    unfold FM_isOf_19 at hf
    refine lv_iload_n hx hb dX9_isOf_19 rfl (lv_at hl 1 rfl) ?_
    refine lv_iconst (v := 3) hx hb dX9_isOf_20 (by decide) ?_
    refine lv_icmp_ne (tgt := 33) hx hb dX9_isOf_21 (by decide) (fun c5 => ?_) (fun c5 => ?_)
    · have hf := (if_neg c5).symm.trans hf
      refine lv_iconst (v := 0) hx hb dX9_isOf_33 (by decide) ?_
      exact hre _ _ _ _ _ hf hP hD hS dX9_isOf_34 rfl
    · have hf := (if_pos c5).symm.trans hf
      refine lv_iload_n hx hb dX9_isOf_24 rfl (lv_at hl 0 rfl) ?_
      refine lv_iconst (v := 4) hx hb dX9_isOf_25 (by decide) ?_
      refine lv_icmp_ne (tgt := 33) hx hb dX9_isOf_26 (by decide) (fun c6 => ?_) (fun c6 => ?_)
      · have hf := (if_neg c6).symm.trans hf
        refine lv_iconst (v := 0) hx hb dX9_isOf_33 (by decide) ?_
        exact hre _ _ _ _ _ hf hP hD hS dX9_isOf_34 rfl
      · have hf := (if_pos c6).symm.trans hf
        exact b29 _ _ _ hf (lv_sub hl [] rfl) hP hD hS
  unfold FM_isOf at hf
  refine lv_iload_n hx hb dX9_isOf_0 rfl (lv_at hl 1 rfl) ?_
  refine lv_if_eq (tgt := 29) hx hb dX9_isOf_1 (by decide) (fun c1 => ?_) (fun c1 => ?_)
  · have hf := (if_pos c1).symm.trans hf
    exact b29 _ _ _ hf (lv_sub hl [] rfl) hP hD hS
  · have hf := (if_neg c1).symm.trans hf
    refine lv_iload_n hx hb dX9_isOf_4 rfl (lv_at hl 0 rfl) ?_
    refine lv_iload_n hx hb dX9_isOf_5 rfl (lv_at hl 1 rfl) ?_
    refine lv_icmp_eq (tgt := 29) hx hb dX9_isOf_6 (by decide) (fun c2 => ?_) (fun c2 => ?_)
    · have hf := (if_pos c2).symm.trans hf
      exact b29 _ _ _ hf (lv_sub hl [] rfl) hP hD hS
    · have hf := (if_neg c2).symm.trans hf
      refine lv_iload_n hx hb dX9_isOf_9 rfl (lv_at hl 1 rfl) ?_
      refine lv_iconst (v := 1) hx hb dX9_isOf_10 (by decide) ?_
      refine lv_icmp_ne (tgt := 19) hx hb dX9_isOf_11 (by decide) (fun c3 => ?_) (fun c3 => ?_)
      · have hf := (if_neg c3).symm.trans hf
        exact b19 _ _ _ _ _ hf (lv_sub hl [0, 1] rfl) hP hD hS
      · have hf := (if_pos c3).symm.trans hf
        refine lv_iload_n hx hb dX9_isOf_14 rfl (lv_at hl 0 rfl) ?_
        refine lv_iconst (v := 5) hx hb dX9_isOf_15 (by decide) ?_
        refine lv_icmp_lt (tgt := 29) hx hb dX9_isOf_16 (by decide) (fun c4 => ?_) (fun c4 => ?_)
        · have hf := (if_pos c4).symm.trans hf
          exact b29 _ _ _ hf (lv_sub hl [] rfl) hP hD hS
        · have hf := (if_neg c4).symm.trans hf
          exact b19 _ _ _ _ _ hf (lv_sub hl [0, 1] rfl) hP hD hS
def FM_kind (σ : MS) (a1 : Int32) : Option (Int32 × MS) :=
  nm (setF σ 0 0) fun (σ1 : MS) => Option.bind (FM_isCoin σ1 a1) fun (r2 : Int32) => if r2 = 0 then (some ((-1000001), σ1)) else (Option.bind (FM_of σ1 a1 0) fun (r4 : Int32) => some (r4, σ1))
set_option maxHeartbeats 4000000 in
set_option maxRecDepth 100000 in
theorem kM_kind (l : Launch) (D : va_G) (h : Nat → Nat) (cI cZ : ClassId) (σ : MS) (a1 : Int32) (r : Int32) (σ' : MS) (hf : FM_kind σ a1 = some (r, σ')) : KK l D [(cI, .int), (cZ, .boolean)] yX9_kind wsX9_kind 2 46 [.ref (h 0), .int a1] (mw h cI cZ σ) (some (.int r)) (mw h cI cZ σ') := by
  refine KK.ofI (own := RX9) (cc := cX9_kind) (maxL := 2) (by decide) rfl rfl (Nat.le_of_ble_eq_true rfl) ?_
  intro p e s m args below meth c R Q A ls S hRf hRl hK hA hP hD hS hl hret
  obtain ⟨hx, hb, hml, hown, hts⟩ := id S
  have hin : ∀ w ∈ wsX90, w ∈ wsX9_kind := fun w hw => List.mem_cons_of_mem _ (List.mem_append_right _ hw)
  have f47 := hts (.fieldLink RX9 47 "PenniesAwayModel" "thrown" "I") (by decide +kernel)
  have c67 := hts (.constant RX9 67 (-1000001)) (by decide +kernel)
  have hl : lv_has ls 2 [(0, .ref (h 0)), (1, .int a1)] := hl
  have hre : ∀ (x : Int32) (σx : MS) (pc : Nat) (ls : Array Slot) (H : Heap) (locs : List Loc), (some (x, σx) : Option (Int32 × MS)) = some (r, σ') → va_P D vwCl (mw h cI cZ σx) H → va_D A (mw h cI cZ σx) → va_S A s.heap H locs → decode cX9_kind pc = .ok (.ireturn, 1) → W p l e R s m args below meth c H locs 0 0 Q (F0 m pc ls [.int x]) := by intro x σx pc ls H locs he; cases he; exact hret pc ls H locs
  unfold FM_kind at hf
  refine lv_aload_n hx hb dX9_kind_0 rfl (lv_at hl 0 rfl) ?_
  refine lv_iconst (v := 0) hx hb dX9_kind_1 (by decide) ?_
  refine Mp_0 S hin hK hP hD hS f47 dX9_kind_2 (fun H locs hP hD hS => ?_)
  obtain ⟨σ1, eσ1, hf⟩ := nm_some hf
  rw [← eσ1] at hP hD
  refine lv_aload_n hx hb dX9_kind_5 rfl (lv_at hl 0 rfl) ?_
  refine lv_iload_n hx hb dX9_kind_6 rfl (lv_at hl 1 rfl) ?_
  obtain ⟨r2, hr2, hf⟩ := bi_some hf
  refine kc_v (ci := 8) (q0 := 0) (n := 1) S hRf hRl hK hA hP hD hS hl [.int a1] [] (kM_isCoin l D h cI cZ σ1 a1 r2 hr2) gX9_kind_X9_isCoin rfl (by decide +kernel) rfl ⟨by decide, by decide⟩ rfl rfl rfl rfl (Nat.le_of_ble_eq_true rfl) dX9_kind_7 (fun H locs hP hD hS => ?_)
  refine W.eq (g2 := F0 m 10 ls [.int r2]) rfl ?_
  refine lv_if_eq (tgt := 22) hx hb dX9_kind_10 (by decide) (fun c3 => ?_) (fun c3 => ?_)
  · have hf := (if_pos c3).symm.trans hf
    refine lv_ldc (v := (-1000001)) hx hb hown c67 dX9_kind_22 ?_
    exact hre _ _ _ _ _ _ hf hP hD hS dX9_kind_24
  · have hf := (if_neg c3).symm.trans hf
    refine lv_aload_n hx hb dX9_kind_13 rfl (lv_at hl 0 rfl) ?_
    refine lv_iload_n hx hb dX9_kind_14 rfl (lv_at hl 1 rfl) ?_
    refine lv_iconst (v := 0) hx hb dX9_kind_15 (by decide) ?_
    obtain ⟨r4, hr4, hf⟩ := bi_some hf
    refine kc_v (ci := 8) (q0 := 0) (n := 2) S hRf hRl hK hA hP hD hS hl [.int a1, .int 0] [] (kM_of l D h cI cZ σ1 a1 0 r4 hr4) gX9_kind_X9_of rfl (by decide +kernel) rfl ⟨by decide, by decide⟩ rfl rfl rfl rfl (Nat.le_of_ble_eq_true rfl) dX9_kind_16 (fun H locs hP hD hS => ?_)
    refine W.eq (g2 := F0 m 19 ls [.int r4]) rfl ?_
    refine lv_goto (tgt := 24) hx hb dX9_kind_19 (by decide) ?_
    exact hre _ _ _ _ _ _ hf hP hD hS dX9_kind_24
