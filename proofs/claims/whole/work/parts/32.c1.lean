def FP_outside_10 : Option Int32 :=
  some (1)
def FP_outside (a0 : Int32) (a1 : Int32) (a2 : Int32) : Option Int32 :=
  if a0 < a1 then (FP_outside_10) else (if a0 ≤ a2 then (some (0)) else (FP_outside_10))
set_option maxHeartbeats 4000000 in
set_option maxRecDepth 100000 in
theorem kP_outside (l : Launch) (D : va_G) (cI cB cR cM cJ : ClassId) (t : Nat → Nat) (w0 : va_W) (a0 : Int32) (a1 : Int32) (a2 : Int32) (r : Int32) (hf : FP_outside a0 a1 a2 = some (r)) : KZ l D (ctys cI cB cR cM cJ) t yX8_outside wsX8_outside 0 0 [.int a0, .int a1, .int a2] w0 (some (.int r)) w0 := by
  refine KZ.ofZ (own := RX8) (cc := cX8_outside) (maxL := 3) (by decide) rfl rfl (Nat.le_of_ble_eq_true rfl) ?_
  intro p e s m args below meth c R Q A ls S hRf hRl hK hA hP hD hS hl hZ hret
  obtain ⟨hx, hb, hml, hown, hts⟩ := id S
  have hl : lv_has ls 3 [(0, .int a0), (1, .int a1), (2, .int a2)] := hl
  have hre : ∀ (x : Int32) (pc : Nat) (ls : Array Slot) (H : Heap) (locs : List Loc), (some (x) : Option Int32) = some (r) → va_P D vwCl w0 H → va_D A w0 → va_S A s.heap H locs → decode cX8_outside pc = .ok (.ireturn, 1) → narrow .boolean (.int x) = .int x → W p l e R s m args below meth c H locs 0 0 Q (F0 m pc ls [.int x]) := by intro x pc ls H locs he; cases he; exact hret pc ls H locs
  have b10 : ∀ (ls : Array Slot) (H : Heap) (locs : List Loc), FP_outside_10  = some (r) → lv_has ls 3 [] → va_P D vwCl w0 H → va_D A w0 → va_S A s.heap H locs → W p l e R s m args below meth c H locs 0 0 Q (F0 m 10 ls []) := by
    intro ls H locs hf hl hP hD hS
    unfold FP_outside_10 at hf
    refine lv_iconst (v := 1) hx hb dX8_outside_10 (by decide) ?_
    refine lv_goto (tgt := 15) hx hb dX8_outside_11 (by decide) ?_
    exact hre _ _ _ _ _ hf hP hD hS dX8_outside_15 rfl
  unfold FP_outside at hf
  refine lv_iload_n hx hb dX8_outside_0 rfl (lv_at hl 0 rfl) ?_
  refine lv_iload_n hx hb dX8_outside_1 rfl (lv_at hl 1 rfl) ?_
  refine lv_icmp_lt (tgt := 10) hx hb dX8_outside_2 (by decide) (fun c1 => ?_) (fun c1 => ?_)
  · have hf := (if_pos c1).symm.trans hf
    exact b10 _ _ _ hf (lv_sub hl [] rfl) hP hD hS
  · have hf := (if_neg c1).symm.trans hf
    refine lv_iload_n hx hb dX8_outside_5 rfl (lv_at hl 0 rfl) ?_
    refine lv_iload_n hx hb dX8_outside_6 rfl (lv_at hl 2 rfl) ?_
    refine lv_icmp_le (tgt := 14) hx hb dX8_outside_7 (by decide) (fun c2 => ?_) (fun c2 => ?_)
    · have hf := (if_pos c2).symm.trans hf
      refine lv_iconst (v := 0) hx hb dX8_outside_14 (by decide) ?_
      exact hre _ _ _ _ _ hf hP hD hS dX8_outside_15 rfl
    · have hf := (if_neg c2).symm.trans hf
      exact b10 _ _ _ hf (lv_sub hl [] rfl) hP hD hS
def FP_noRow (a0 : Int32) : Option Int32 :=
  Option.bind (FP_outside a0 0 7) fun (r1 : Int32) => gd (r1 = 0 ∨ r1 = 1) (some (r1))
set_option maxHeartbeats 4000000 in
set_option maxRecDepth 100000 in
theorem kP_noRow (l : Launch) (D : va_G) (cI cB cR cM cJ : ClassId) (t : Nat → Nat) (w0 : va_W) (a0 : Int32) (r : Int32) (hf : FP_noRow a0 = some (r)) : KZ l D (ctys cI cB cR cM cJ) t yX8_noRow wsX8_noRow 1 22 [.int a0] w0 (some (.int r)) w0 := by
  refine KZ.ofZ (own := RX8) (cc := cX8_noRow) (maxL := 1) (by decide) rfl rfl (Nat.le_of_ble_eq_true rfl) ?_
  intro p e s m args below meth c R Q A ls S hRf hRl hK hA hP hD hS hl hZ hret
  obtain ⟨hx, hb, hml, hown, hts⟩ := id S
  have hl : lv_has ls 1 [(0, .int a0)] := hl
  have hre : ∀ (x : Int32) (pc : Nat) (ls : Array Slot) (H : Heap) (locs : List Loc), (some (x) : Option Int32) = some (r) → va_P D vwCl w0 H → va_D A w0 → va_S A s.heap H locs → decode cX8_noRow pc = .ok (.ireturn, 1) → narrow .boolean (.int x) = .int x → W p l e R s m args below meth c H locs 0 0 Q (F0 m pc ls [.int x]) := by intro x pc ls H locs he; cases he; exact hret pc ls H locs
  unfold FP_noRow at hf
  refine lv_iload_n hx hb dX8_noRow_0 rfl (lv_at hl 0 rfl) ?_
  refine lv_iconst (v := 0) hx hb dX8_noRow_1 (by decide) ?_
  refine lv_bipush (v := 7) hx hb dX8_noRow_2 (by decide) ?_
  obtain ⟨r1, hr1, hf⟩ := bi_some hf
  refine kz_s (n := 3) S hRf hRl hK hA hZ hP hD hS hl [] [.int a0, .int 0, .int 7] [] (kP_outside l D cI cB cR cM cJ t [] a0 0 7 r1 hr1) rfl rfl rfl gX8_noRow_X8_outside rfl (by decide +kernel) rfl ⟨by decide, by decide⟩ rfl (Nat.le_of_ble_eq_true rfl) dX8_noRow_4 (fun H locs hP hD hS => ?_)
  replace hP : va_P D vwCl w0 H := hP
  replace hD : va_D A w0 := hD
  refine W.eq (g2 := F0 m 7 ls [.int r1]) rfl ?_
  obtain ⟨g2, hf⟩ := gd_some hf
  exact hre _ _ _ _ _ hf hP hD hS dX8_noRow_7 (by rcases g2 with g2 | g2 <;> (rw [g2]; rfl))
def FP_power_4 : Nat → Int32 → Int32 → Int32 → Int32 → Option Int32
  | 0, _, _, _, _ => none
  | n + 1, l0, l1, l2, l3 => if l1 ≤ l3 then (some (l2)) else (nm (l2 * l0) fun (x2 : Int32) => nm (l3 + 1) fun (x3 : Int32) => (FP_power_4 n) l0 l1 x2 x3)
def FP_power (a0 : Int32) (a1 : Int32) : Option Int32 :=
  FP_power_4 fuelN a0 a1 1 0
set_option maxHeartbeats 4000000 in
set_option maxRecDepth 100000 in
theorem kP_power (l : Launch) (D : va_G) (cI cB cR cM cJ : ClassId) (t : Nat → Nat) (w0 : va_W) (a0 : Int32) (a1 : Int32) (r : Int32) (hf : FP_power a0 a1 = some (r)) : KZ l D (ctys cI cB cR cM cJ) t yX8_power wsX8_power 0 0 [.int a0, .int a1] w0 (some (.int r)) w0 := by
  refine KZ.ofI (own := RX8) (cc := cX8_power) (maxL := 4) (by decide) rfl rfl (Nat.le_of_ble_eq_true rfl) ?_
  intro p e s m args below meth c R Q A ls S hRf hRl hK hA hP hD hS hl hZ hret
  obtain ⟨hx, hb, hml, hown, hts⟩ := id S
  have hl : lv_has ls 4 [(0, .int a0), (1, .int a1)] := hl
  have hre : ∀ (x : Int32) (pc : Nat) (ls : Array Slot) (H : Heap) (locs : List Loc), (some (x) : Option Int32) = some (r) → va_P D vwCl w0 H → va_D A w0 → va_S A s.heap H locs → decode cX8_power pc = .ok (.ireturn, 1) → W p l e R s m args below meth c H locs 0 0 Q (F0 m pc ls [.int x]) := by intro x pc ls H locs he; cases he; exact hret pc ls H locs
  have b4 : ∀ (n : Nat), ∀ (l0 : Int32) (l1 : Int32) (l2 : Int32) (l3 : Int32) (ls : Array Slot) (H : Heap) (locs : List Loc), FP_power_4 n l0 l1 l2 l3 = some (r) → lv_has ls 4 [(0, .int l0), (1, .int l1), (2, .int l2), (3, .int l3)] → va_P D vwCl w0 H → va_D A w0 → va_S A s.heap H locs → W p l e R s m args below meth c H locs 0 0 Q (F0 m 4 ls []) := by
    intro n
    induction n with
    | zero => intro l0 l1 l2 l3 ls H locs hf; exact absurd hf (by simp [FP_power_4])
    | succ n ih =>
      intro l0 l1 l2 l3 ls H locs hf hl hP hD hS
      rw [FP_power_4] at hf
      refine lv_iload_n hx hb dX8_power_4 rfl (lv_at hl 3 rfl) ?_
      refine lv_iload_n hx hb dX8_power_5 rfl (lv_at hl 1 rfl) ?_
      refine lv_icmp_ge (tgt := 19) hx hb dX8_power_6 (by decide) (fun c1 => ?_) (fun c1 => ?_)
      · have hf := (if_pos c1).symm.trans hf
        refine lv_iload_n hx hb dX8_power_19 rfl (lv_at hl 2 rfl) ?_
        exact hre _ _ _ _ _ hf hP hD hS dX8_power_20
      · have hf := (if_neg c1).symm.trans hf
        refine lv_iload_n hx hb dX8_power_9 rfl (lv_at hl 2 rfl) ?_
        refine lv_iload_n hx hb dX8_power_10 rfl (lv_at hl 0 rfl) ?_
        refine lv_imul hx hb dX8_power_11 ?_
        refine lv_topi (fun x2 ex2 => ?_)
        have hf := nm_at ex2 hf
        refine lv_istore_n (lv' := [(2, .int x2), (0, .int l0), (1, .int l1), (3, .int l3)]) hx hb dX8_power_12 rfl hl (by decide) rfl (fun ls hl => ?_)
        obtain ⟨x3, ex3, hf⟩ := nm_some hf
        refine lv_iinc (v := x3) (lv' := [(3, .int x3), (2, .int x2), (0, .int l0), (1, .int l1)]) hx hb dX8_power_13 hl (k := 3) rfl (by rw [ex3]; rfl) (by decide) rfl (fun ls hl => ?_)
        refine lv_goto (tgt := 4) hx hb dX8_power_16 (by decide) ?_
        exact ih _ _ _ _ _ _ _ hf (lv_sub hl [2, 3, 1, 0] rfl) hP hD hS
  unfold FP_power at hf
  refine lv_iconst (v := 1) hx hb dX8_power_0 (by decide) ?_
  refine lv_istore_n (lv' := [(2, .int 1), (0, .int a0), (1, .int a1)]) hx hb dX8_power_1 rfl hl (by decide) rfl (fun ls hl => ?_)
  refine lv_iconst (v := 0) hx hb dX8_power_2 (by decide) ?_
  refine lv_istore_n (lv' := [(3, .int 0), (2, .int 1), (0, .int a0), (1, .int a1)]) hx hb dX8_power_3 rfl hl (by decide) rfl (fun ls hl => ?_)
  exact b4 fuelN _ _ _ _ _ _ _ hf (lv_sub hl [2, 3, 1, 0] rfl) hP hD hS
def FP_commonDivisor_34 (l2 : Int32) : Option Int32 :=
  some ((if l2 < 1 then 1 else l2))
def FP_commonDivisor_7 : Nat → Int32 → Int32 → Int32 → Option Int32
  | 0, _, _, _ => none
  | n + 1, l2, l3, l4 => if 100 ≤ l4 then (FP_commonDivisor_34 l2) else (if l3 = 0 then (FP_commonDivisor_34 l2) else (gd (¬ (l3 : Int32) = 0) (nm (l2 - l2 / l3 * l3) fun (x4 : Int32) => nm (l4 + 1) fun (x5 : Int32) => (FP_commonDivisor_7 n) l3 x4 x5)))
def FP_commonDivisor (a0 : Int32) (a1 : Int32) : Option Int32 :=
  FP_commonDivisor_7 fuelN a0 a1 0
set_option maxHeartbeats 4000000 in
set_option maxRecDepth 100000 in
theorem kP_commonDivisor (l : Launch) (D : va_G) (cI cB cR cM cJ : ClassId) (t : Nat → Nat) (w0 : va_W) (a0 : Int32) (a1 : Int32) (r : Int32) (hf : FP_commonDivisor a0 a1 = some (r)) : KZ l D (ctys cI cB cR cM cJ) t yX8_commonDivisor wsX8_commonDivisor 1 24 [.int a0, .int a1] w0 (some (.int r)) w0 := by
  refine KZ.ofI (own := RX8) (cc := cX8_commonDivisor) (maxL := 6) (by decide) rfl rfl (Nat.le_of_ble_eq_true rfl) ?_
  intro p e s m args below meth c R Q A ls S hRf hRl hK hA hP hD hS hl hZ hret
  obtain ⟨hx, hb, hml, hown, hts⟩ := id S
  have ml282 := hts (.methodLink RX8 282 Lib.Math.max.name) (by decide +kernel)
  have msmax := hts (.static Lib.Math.max.name) (by decide +kernel)
  have mini := hts (.initialized "java/lang/Math") (by decide +kernel)
  have mcmax := hts (.code Lib.Math.max.name Lib.Math.max.code 2 (some .int)) (by decide +kernel)
  have hl : lv_has ls 6 [(0, .int a0), (1, .int a1)] := hl
  have hre : ∀ (x : Int32) (pc : Nat) (ls : Array Slot) (H : Heap) (locs : List Loc), (some (x) : Option Int32) = some (r) → va_P D vwCl w0 H → va_D A w0 → va_S A s.heap H locs → decode cX8_commonDivisor pc = .ok (.ireturn, 1) → W p l e R s m args below meth c H locs 0 0 Q (F0 m pc ls [.int x]) := by intro x pc ls H locs he; cases he; exact hret pc ls H locs
  have b34 : ∀ (l2 : Int32) (ls : Array Slot) (H : Heap) (locs : List Loc), FP_commonDivisor_34 l2 = some (r) → lv_has ls 6 [(2, .int l2)] → va_P D vwCl w0 H → va_D A w0 → va_S A s.heap H locs → W p l e R s m args below meth c H locs 0 0 Q (F0 m 34 ls []) := by
    intro l2 ls H locs hf hl hP hD hS
    unfold FP_commonDivisor_34 at hf
    refine lv_iload_n hx hb dX8_commonDivisor_34 rfl (lv_at hl 0 rfl) ?_
    refine lv_iconst (v := 1) hx hb dX8_commonDivisor_35 (by decide) ?_
    refine va_mmax hx hb (hml.trans hl.1.symm) hown ml282 msmax mini mcmax (by rw [hRf]; decide) (by rw [hRl]; exact Nat.le_of_ble_eq_true rfl) (Nat.zero_le _) (Nat.zero_le _) dX8_commonDivisor_36 ?_
    exact hre _ _ _ _ _ hf hP hD hS dX8_commonDivisor_39
  have b7 : ∀ (n : Nat), ∀ (l2 : Int32) (l3 : Int32) (l4 : Int32) (ls : Array Slot) (H : Heap) (locs : List Loc), FP_commonDivisor_7 n l2 l3 l4 = some (r) → lv_has ls 6 [(2, .int l2), (3, .int l3), (4, .int l4)] → va_P D vwCl w0 H → va_D A w0 → va_S A s.heap H locs → W p l e R s m args below meth c H locs 0 0 Q (F0 m 7 ls []) := by
    intro n
    induction n with
    | zero => intro l2 l3 l4 ls H locs hf; exact absurd hf (by simp [FP_commonDivisor_7])
    | succ n ih =>
      intro l2 l3 l4 ls H locs hf hl hP hD hS
      rw [FP_commonDivisor_7] at hf
      refine lv_iload hx hb dX8_commonDivisor_7 (lv_at hl 2 rfl) ?_
      refine lv_bipush (v := 100) hx hb dX8_commonDivisor_9 (by decide) ?_
      refine lv_icmp_ge (tgt := 34) hx hb dX8_commonDivisor_11 (by decide) (fun c1 => ?_) (fun c1 => ?_)
      · have hf := (if_pos c1).symm.trans hf
        exact b34 _ _ _ _ hf (lv_sub hl [0] rfl) hP hD hS
      · have hf := (if_neg c1).symm.trans hf
        refine lv_iload_n hx hb dX8_commonDivisor_14 rfl (lv_at hl 1 rfl) ?_
        refine lv_if_eq (tgt := 34) hx hb dX8_commonDivisor_15 (by decide) (fun c2 => ?_) (fun c2 => ?_)
        · have hf := (if_pos c2).symm.trans hf
          exact b34 _ _ _ _ hf (lv_sub hl [0] rfl) hP hD hS
        · have hf := (if_neg c2).symm.trans hf
          refine lv_iload_n hx hb dX8_commonDivisor_18 rfl (lv_at hl 0 rfl) ?_
          refine lv_iload_n hx hb dX8_commonDivisor_19 rfl (lv_at hl 1 rfl) ?_
          obtain ⟨g3, hf⟩ := gd_some hf
          refine lv_irem hx hb dX8_commonDivisor_20 g3 ?_
          refine lv_topi (fun x4 ex4 => ?_)
          have hf := nm_at ex4 hf
          refine lv_istore (lv' := [(5, .int x4), (2, .int l2), (3, .int l3), (4, .int l4)]) hx hb dX8_commonDivisor_21 hl (by decide) rfl (fun ls hl => ?_)
          refine lv_iload_n hx hb dX8_commonDivisor_23 rfl (lv_at hl 2 rfl) ?_
          refine lv_istore_n (lv' := [(2, .int l3), (5, .int x4), (3, .int l3), (4, .int l4)]) hx hb dX8_commonDivisor_24 rfl hl (by decide) rfl (fun ls hl => ?_)
          refine lv_iload hx hb dX8_commonDivisor_25 (lv_at hl 1 rfl) ?_
          refine lv_istore_n (lv' := [(3, .int x4), (2, .int l3), (5, .int x4), (4, .int l4)]) hx hb dX8_commonDivisor_27 rfl hl (by decide) rfl (fun ls hl => ?_)
          obtain ⟨x5, ex5, hf⟩ := nm_some hf
          refine lv_iinc (v := x5) (lv' := [(4, .int x5), (3, .int x4), (2, .int l3), (5, .int x4)]) hx hb dX8_commonDivisor_28 hl (k := 3) rfl (by rw [ex5]; rfl) (by decide) rfl (fun ls hl => ?_)
          refine lv_goto (tgt := 7) hx hb dX8_commonDivisor_31 (by decide) ?_
          exact ih _ _ _ _ _ _ hf (lv_sub hl [2, 1, 0] rfl) hP hD hS
  unfold FP_commonDivisor at hf
  refine lv_iload_n hx hb dX8_commonDivisor_0 rfl (lv_at hl 0 rfl) ?_
  refine lv_istore_n (lv' := [(2, .int a0), (0, .int a0), (1, .int a1)]) hx hb dX8_commonDivisor_1 rfl hl (by decide) rfl (fun ls hl => ?_)
  refine lv_iload_n hx hb dX8_commonDivisor_2 rfl (lv_at hl 2 rfl) ?_
  refine lv_istore_n (lv' := [(3, .int a1), (2, .int a0), (0, .int a0), (1, .int a1)]) hx hb dX8_commonDivisor_3 rfl hl (by decide) rfl (fun ls hl => ?_)
  refine lv_iconst (v := 0) hx hb dX8_commonDivisor_4 (by decide) ?_
  refine lv_istore (lv' := [(4, .int 0), (3, .int a1), (2, .int a0), (0, .int a0), (1, .int a1)]) hx hb dX8_commonDivisor_5 hl (by decide) rfl (fun ls hl => ?_)
  exact b7 fuelN _ _ _ _ _ _ hf (lv_sub hl [2, 1, 0] rfl) hP hD hS
def FJ_bitCount_0f7a4 (a0 : Int32) : Option Int32 :=
  nm (a0 - ((Int32.toUInt32 a0 >>> (Int32.toUInt32 1 &&& Int32.toUInt32 31)).toInt32 &&& 1431655765)) fun (x1 : Int32) => nm ((x1 &&& 858993459) + ((Int32.toUInt32 x1 >>> (Int32.toUInt32 2 &&& Int32.toUInt32 31)).toInt32 &&& 858993459)) fun (x2 : Int32) => nm ((x2 + (Int32.toUInt32 x2 >>> (Int32.toUInt32 4 &&& Int32.toUInt32 31)).toInt32) &&& 252645135) fun (x3 : Int32) => nm (x3 + (Int32.toUInt32 x3 >>> (Int32.toUInt32 8 &&& Int32.toUInt32 31)).toInt32) fun (x4 : Int32) => nm (x4 + (Int32.toUInt32 x4 >>> (Int32.toUInt32 16 &&& Int32.toUInt32 31)).toInt32) fun (x5 : Int32) => some ((x5 &&& 63))
set_option maxHeartbeats 4000000 in
set_option maxRecDepth 100000 in
theorem kJ_bitCount_0f7a4 (l : Launch) (D : va_G) (cI cB cR cM cJ : ClassId) (t : Nat → Nat) (w0 : va_W) (a0 : Int32) (r : Int32) (hf : FJ_bitCount_0f7a4 a0 = some (r)) : KZ l D (ctys cI cB cR cM cJ) t yJ6_bitCount_0f7a4 wsJ6_bitCount_0f7a4 0 0 [.int a0] w0 (some (.int r)) w0 := by
  refine KZ.ofI (own := RJ6) (cc := cJ6_bitCount_0f7a4) (maxL := 1) (by decide) rfl rfl (Nat.le_of_ble_eq_true rfl) ?_
  intro p e s m args below meth c R Q A ls S hRf hRl hK hA hP hD hS hl hZ hret
  obtain ⟨hx, hb, hml, hown, hts⟩ := id S
  have c265 := hts (.constant RJ6 265 (1431655765)) (by decide +kernel)
  have c266 := hts (.constant RJ6 266 (858993459)) (by decide +kernel)
  have c267 := hts (.constant RJ6 267 (252645135)) (by decide +kernel)
  have hl : lv_has ls 1 [(0, .int a0)] := hl
  have hre : ∀ (x : Int32) (pc : Nat) (ls : Array Slot) (H : Heap) (locs : List Loc), (some (x) : Option Int32) = some (r) → va_P D vwCl w0 H → va_D A w0 → va_S A s.heap H locs → decode cJ6_bitCount_0f7a4 pc = .ok (.ireturn, 1) → W p l e R s m args below meth c H locs 0 0 Q (F0 m pc ls [.int x]) := by intro x pc ls H locs he; cases he; exact hret pc ls H locs
  unfold FJ_bitCount_0f7a4 at hf
  refine lv_iload_n hx hb dJ6_bitCount_0f7a4_0 rfl (lv_at hl 0 rfl) ?_
  refine lv_iload_n hx hb dJ6_bitCount_0f7a4_1 rfl (lv_at hl 0 rfl) ?_
  refine lv_iconst (v := 1) hx hb dJ6_bitCount_0f7a4_2 (by decide) ?_
  refine lv_iushr hx hb dJ6_bitCount_0f7a4_3 rfl ?_
  refine lv_ldcw (v := 1431655765) hx hb hown c265 dJ6_bitCount_0f7a4_4 ?_
  refine lv_iand hx hb dJ6_bitCount_0f7a4_7 ?_
  refine lv_isub hx hb dJ6_bitCount_0f7a4_8 ?_
  refine lv_topi (fun x1 ex1 => ?_)
  have hf := nm_at ex1 hf
  refine lv_istore_n (lv' := [(0, .int x1)]) hx hb dJ6_bitCount_0f7a4_9 rfl hl (by decide) rfl (fun ls hl => ?_)
  refine lv_iload_n hx hb dJ6_bitCount_0f7a4_10 rfl (lv_at hl 0 rfl) ?_
  refine lv_ldcw (v := 858993459) hx hb hown c266 dJ6_bitCount_0f7a4_11 ?_
  refine lv_iand hx hb dJ6_bitCount_0f7a4_14 ?_
  refine lv_iload_n hx hb dJ6_bitCount_0f7a4_15 rfl (lv_at hl 0 rfl) ?_
  refine lv_iconst (v := 2) hx hb dJ6_bitCount_0f7a4_16 (by decide) ?_
  refine lv_iushr hx hb dJ6_bitCount_0f7a4_17 rfl ?_
  refine lv_ldcw (v := 858993459) hx hb hown c266 dJ6_bitCount_0f7a4_18 ?_
  refine lv_iand hx hb dJ6_bitCount_0f7a4_21 ?_
  refine lv_iadd hx hb dJ6_bitCount_0f7a4_22 ?_
  refine lv_topi (fun x2 ex2 => ?_)
  have hf := nm_at ex2 hf
  refine lv_istore_n (lv' := [(0, .int x2)]) hx hb dJ6_bitCount_0f7a4_23 rfl hl (by decide) rfl (fun ls hl => ?_)
  refine lv_iload_n hx hb dJ6_bitCount_0f7a4_24 rfl (lv_at hl 0 rfl) ?_
  refine lv_iload_n hx hb dJ6_bitCount_0f7a4_25 rfl (lv_at hl 0 rfl) ?_
  refine lv_iconst (v := 4) hx hb dJ6_bitCount_0f7a4_26 (by decide) ?_
  refine lv_iushr hx hb dJ6_bitCount_0f7a4_27 rfl ?_
  refine lv_iadd hx hb dJ6_bitCount_0f7a4_28 ?_
  refine lv_ldcw (v := 252645135) hx hb hown c267 dJ6_bitCount_0f7a4_29 ?_
  refine lv_iand hx hb dJ6_bitCount_0f7a4_32 ?_
  refine lv_topi (fun x3 ex3 => ?_)
  have hf := nm_at ex3 hf
  refine lv_istore_n (lv' := [(0, .int x3)]) hx hb dJ6_bitCount_0f7a4_33 rfl hl (by decide) rfl (fun ls hl => ?_)
  refine lv_iload_n hx hb dJ6_bitCount_0f7a4_34 rfl (lv_at hl 0 rfl) ?_
  refine lv_iload_n hx hb dJ6_bitCount_0f7a4_35 rfl (lv_at hl 0 rfl) ?_
  refine lv_bipush (v := 8) hx hb dJ6_bitCount_0f7a4_36 (by decide) ?_
  refine lv_iushr hx hb dJ6_bitCount_0f7a4_38 rfl ?_
  refine lv_iadd hx hb dJ6_bitCount_0f7a4_39 ?_
  refine lv_topi (fun x4 ex4 => ?_)
  have hf := nm_at ex4 hf
  refine lv_istore_n (lv' := [(0, .int x4)]) hx hb dJ6_bitCount_0f7a4_40 rfl hl (by decide) rfl (fun ls hl => ?_)
  refine lv_iload_n hx hb dJ6_bitCount_0f7a4_41 rfl (lv_at hl 0 rfl) ?_
  refine lv_iload_n hx hb dJ6_bitCount_0f7a4_42 rfl (lv_at hl 0 rfl) ?_
  refine lv_bipush (v := 16) hx hb dJ6_bitCount_0f7a4_43 (by decide) ?_
  refine lv_iushr hx hb dJ6_bitCount_0f7a4_45 rfl ?_
  refine lv_iadd hx hb dJ6_bitCount_0f7a4_46 ?_
  refine lv_topi (fun x5 ex5 => ?_)
  have hf := nm_at ex5 hf
  refine lv_istore_n (lv' := [(0, .int x5)]) hx hb dJ6_bitCount_0f7a4_47 rfl hl (by decide) rfl (fun ls hl => ?_)
  refine lv_iload_n hx hb dJ6_bitCount_0f7a4_48 rfl (lv_at hl 0 rfl) ?_
  refine lv_bipush (v := 63) hx hb dJ6_bitCount_0f7a4_49 (by decide) ?_
  refine lv_iand hx hb dJ6_bitCount_0f7a4_51 ?_
  exact hre _ _ _ _ _ hf hP hD hS dJ6_bitCount_0f7a4_52
def FW_missing (σW : MS) : Option Int32 :=
  if (σW.1 1) = (-1) then (some (1)) else (some (0))
set_option maxHeartbeats 4000000 in
set_option maxRecDepth 100000 in
theorem kW_missing (l : Launch) (D : va_G) (uW : Nat → Nat) (cI cB cR cM cJ : ClassId) (t : Nat → Nat) (σW : MS) (r : Int32) (hf : FW_missing σW = some (r)) : KZ l D (ctys cI cB cR cM cJ) t yX6_missing wsX6_missing 0 0 [.ref (uW 0)] (xW uW cI cB cR cM cJ σW) (some (.int r)) (xW uW cI cB cR cM cJ σW) := by
  refine KZ.ofZ (own := RX6) (cc := cX6_missing) (maxL := 1) (by decide) rfl rfl (Nat.le_of_ble_eq_true rfl) ?_
  intro p e s m args below meth c R Q A ls S hRf hRl hK hA hP hD hS hl hZ hret
  obtain ⟨hx, hb, hml, hown, hts⟩ := id S
  have f13 := hts (.fieldLink RX6 13 "PenniesAway$Row" "lane" "I") (by decide +kernel)
  have hinX6 : ∀ w ∈ wsX60, w ∈ wsX6_missing := fun w hw => List.mem_cons_of_mem _ (List.mem_append_right _ hw)
  have hl : lv_has ls 1 [(0, .ref (uW 0))] := hl
  have hre : ∀ (x : Int32) (pc : Nat) (ls : Array Slot) (H : Heap) (locs : List Loc), (some (x) : Option Int32) = some (r) → va_P D vwCl (xW uW cI cB cR cM cJ σW) H → va_D A (xW uW cI cB cR cM cJ σW) → va_S A s.heap H locs → decode cX6_missing pc = .ok (.ireturn, 1) → narrow .boolean (.int x) = .int x → W p l e R s m args below meth c H locs 0 0 Q (F0 m pc ls [.int x]) := by intro x pc ls H locs he; cases he; exact hret pc ls H locs
  unfold FW_missing at hf
  refine lv_aload_n hx hb dX6_missing_0 rfl (lv_at hl 0 rfl) ?_
  refine Wg_1 S hinX6 hK hP 0 rfl f13 dX6_missing_1 ?_
  refine lv_iconst (v := (-1)) hx hb dX6_missing_4 (by decide) ?_
  refine lv_icmp_ne (tgt := 12) hx hb dX6_missing_5 (by decide) (fun c1 => ?_) (fun c1 => ?_)
  · have hf := (if_neg c1).symm.trans hf
    refine lv_iconst (v := 0) hx hb dX6_missing_12 (by decide) ?_
    exact hre _ _ _ _ _ hf hP hD hS dX6_missing_13 rfl
  · have hf := (if_pos c1).symm.trans hf
    refine lv_iconst (v := 1) hx hb dX6_missing_8 (by decide) ?_
    refine lv_goto (tgt := 13) hx hb dX6_missing_9 (by decide) ?_
    exact hre _ _ _ _ _ hf hP hD hS dX6_missing_13 rfl
def FW_lay (σW : MS) (a1 : Int32) (a2 : Int32) : Option MS :=
  nm (setR σW 0 (kfill 40 0 (σW.2 0))) fun (σ1 : MS) => nm (setF σ1 1 a1) fun (σ2 : MS) => nm (setF σ2 2 a2) fun (σ3 : MS) => some (σ3)
set_option maxHeartbeats 4000000 in
set_option maxRecDepth 100000 in
theorem kW_lay (l : Launch) (D : va_G) (uW : Nat → Nat) (cI cB cR cM cJ : ClassId) (t : Nat → Nat) (σW : MS) (a1 : Int32) (a2 : Int32) (σW' : MS) (hf : FW_lay σW a1 a2 = some (σW')) : KZ l D (ctys cI cB cR cM cJ) t yX6_lay wsX6_lay 1 23 [.ref (uW 0), .int a1, .int a2] (xW uW cI cB cR cM cJ σW) none (xW uW cI cB cR cM cJ σW') := by
  refine KZ.ofV (own := RX6) (cc := cX6_lay) (maxL := 3) (by decide) rfl rfl (Nat.le_of_ble_eq_true rfl) ?_
  intro p e s m args below meth c R Q A ls S hRf hRl hK hA hP hD hS hl hZ hret
  obtain ⟨hx, hb, hml, hown, hts⟩ := id S
  have f9 := hts (.fieldLink RX6 9 "PenniesAway$Row" "items" "[I") (by decide +kernel)
  have hinX6 : ∀ w ∈ wsX60, w ∈ wsX6_lay := fun w hw => List.mem_cons_of_mem _ (List.mem_append_right _ hw)
  have f13 := hts (.fieldLink RX6 13 "PenniesAway$Row" "lane" "I") (by decide +kernel)
  have f17 := hts (.fieldLink RX6 17 "PenniesAway$Row" "size" "I") (by decide +kernel)
  have hl : lv_has ls 3 [(0, .ref (uW 0)), (1, .int a1), (2, .int a2)] := hl
  have hre : ∀ (τW : MS) (pc : Nat) (ls : Array Slot) (H : Heap) (locs : List Loc), (some (τW) : Option MS) = some (σW') → va_P D vwCl (xW uW cI cB cR cM cJ τW) H → va_D A (xW uW cI cB cR cM cJ τW) → va_S A s.heap H locs → decode cX6_lay pc = .ok (.return_, 1) → W p l e R s m args below meth c H locs 0 0 Q (F0 m pc ls []) := by intro τW pc ls H locs he; cases he; exact hret pc ls H locs
  unfold FW_lay at hf
  refine lv_aload_n hx hb dX6_lay_0 rfl (lv_at hl 0 rfl) ?_
  refine Wg_0 S hinX6 hK hP 0 rfl f9 dX6_lay_1 ?_
  refine lv_iconst (v := 0) hx hb dX6_lay_4 (by decide) ?_
  refine kz_s (n := 2) S hRf hRl hK hA hZ hP hD hS hl [1] [.ref (uW 1), .int 0] [] (kJ_fill l D t cI cB cR cM cJ (uW 1) 40 0 (σW.2 0) (by decide)) rfl rfl rfl gX6_lay_J7_fill_53178 rfl (by decide +kernel) rfl ⟨by decide, by decide⟩ rfl (Nat.le_of_ble_eq_true rfl) dX6_lay_5 (fun H locs hP hD hS => ?_)
  refine W.eq (g2 := F0 m 8 ls []) rfl ?_
  obtain ⟨σ1, eσ1, hf⟩ := nm_some hf
  replace hP : va_P D vwCl (xW uW cI cB cR cM cJ σ1) H := by rw [eσ1]; exact hP
  replace hD : va_D A (xW uW cI cB cR cM cJ σ1) := by rw [eσ1]; exact hD
  refine lv_aload_n hx hb dX6_lay_8 rfl (lv_at hl 0 rfl) ?_
  refine lv_iload_n hx hb dX6_lay_9 rfl (lv_at hl 1 rfl) ?_
  refine Wp_1 S hinX6 hK hP hD hS 0 rfl f13 dX6_lay_10 (fun H locs hP hD hS => ?_)
  obtain ⟨σ2, eσ2, hf⟩ := nm_some hf
  replace hP : va_P D vwCl (xW uW cI cB cR cM cJ σ2) H := by rw [eσ2]; exact hP
  replace hD : va_D A (xW uW cI cB cR cM cJ σ2) := by rw [eσ2]; exact hD
  refine lv_aload_n hx hb dX6_lay_13 rfl (lv_at hl 0 rfl) ?_
  refine lv_iload_n hx hb dX6_lay_14 rfl (lv_at hl 2 rfl) ?_
  refine Wp_2 S hinX6 hK hP hD hS 0 rfl f17 dX6_lay_15 (fun H locs hP hD hS => ?_)
  obtain ⟨σ3, eσ3, hf⟩ := nm_some hf
  replace hP : va_P D vwCl (xW uW cI cB cR cM cJ σ3) H := by rw [eσ3]; exact hP
  replace hD : va_D A (xW uW cI cB cR cM cJ σ3) := by rw [eσ3]; exact hD
  exact hre _ _ _ _ _ hf hP hD hS dX6_lay_18
def FW_takeAway (σW : MS) : Option MS :=
  nm (setF σW 1 (-1)) fun (σ1 : MS) => nm (setF σ1 2 0) fun (σ2 : MS) => some (σ2)
set_option maxHeartbeats 4000000 in
set_option maxRecDepth 100000 in
theorem kW_takeAway (l : Launch) (D : va_G) (uW : Nat → Nat) (cI cB cR cM cJ : ClassId) (t : Nat → Nat) (σW : MS) (σW' : MS) (hf : FW_takeAway σW = some (σW')) : KZ l D (ctys cI cB cR cM cJ) t yX6_takeAway wsX6_takeAway 0 0 [.ref (uW 0)] (xW uW cI cB cR cM cJ σW) none (xW uW cI cB cR cM cJ σW') := by
  refine KZ.ofV (own := RX6) (cc := cX6_takeAway) (maxL := 1) (by decide) rfl rfl (Nat.le_of_ble_eq_true rfl) ?_
  intro p e s m args below meth c R Q A ls S hRf hRl hK hA hP hD hS hl hZ hret
  obtain ⟨hx, hb, hml, hown, hts⟩ := id S
  have f13 := hts (.fieldLink RX6 13 "PenniesAway$Row" "lane" "I") (by decide +kernel)
  have hinX6 : ∀ w ∈ wsX60, w ∈ wsX6_takeAway := fun w hw => List.mem_cons_of_mem _ (List.mem_append_right _ hw)
  have f17 := hts (.fieldLink RX6 17 "PenniesAway$Row" "size" "I") (by decide +kernel)
  have hl : lv_has ls 1 [(0, .ref (uW 0))] := hl
  have hre : ∀ (τW : MS) (pc : Nat) (ls : Array Slot) (H : Heap) (locs : List Loc), (some (τW) : Option MS) = some (σW') → va_P D vwCl (xW uW cI cB cR cM cJ τW) H → va_D A (xW uW cI cB cR cM cJ τW) → va_S A s.heap H locs → decode cX6_takeAway pc = .ok (.return_, 1) → W p l e R s m args below meth c H locs 0 0 Q (F0 m pc ls []) := by intro τW pc ls H locs he; cases he; exact hret pc ls H locs
  unfold FW_takeAway at hf
  refine lv_aload_n hx hb dX6_takeAway_0 rfl (lv_at hl 0 rfl) ?_
  refine lv_iconst (v := (-1)) hx hb dX6_takeAway_1 (by decide) ?_
  refine Wp_1 S hinX6 hK hP hD hS 0 rfl f13 dX6_takeAway_2 (fun H locs hP hD hS => ?_)
  obtain ⟨σ1, eσ1, hf⟩ := nm_some hf
  replace hP : va_P D vwCl (xW uW cI cB cR cM cJ σ1) H := by rw [eσ1]; exact hP
  replace hD : va_D A (xW uW cI cB cR cM cJ σ1) := by rw [eσ1]; exact hD
  refine lv_aload_n hx hb dX6_takeAway_5 rfl (lv_at hl 0 rfl) ?_
  refine lv_iconst (v := 0) hx hb dX6_takeAway_6 (by decide) ?_
  refine Wp_2 S hinX6 hK hP hD hS 0 rfl f17 dX6_takeAway_7 (fun H locs hP hD hS => ?_)
  obtain ⟨σ2, eσ2, hf⟩ := nm_some hf
  replace hP : va_P D vwCl (xW uW cI cB cR cM cJ σ2) H := by rw [eσ2]; exact hP
  replace hD : va_D A (xW uW cI cB cR cM cJ σ2) := by rw [eσ2]; exact hD
  exact hre _ _ _ _ _ hf hP hD hS dX6_takeAway_10
def FW_holds (σW : MS) (a1 : Int32) (a2 : Int32) : Option Int32 :=
  if a1 < 0 then (some (0)) else (if a2 < 0 then (some (0)) else (if 0 < (lg_cmp ((Int32.toInt64 a1) + (Int32.toInt64 a2)) (Int32.toInt64 (σW.1 2))) then (some (0)) else (some (1))))
set_option maxHeartbeats 4000000 in
set_option maxRecDepth 100000 in
theorem kW_holds (l : Launch) (D : va_G) (uW : Nat → Nat) (cI cB cR cM cJ : ClassId) (t : Nat → Nat) (σW : MS) (a1 : Int32) (a2 : Int32) (r : Int32) (hf : FW_holds σW a1 a2 = some (r)) : KZ l D (ctys cI cB cR cM cJ) t yX6_holds wsX6_holds 0 0 [.ref (uW 0), .int a1, .int a2] (xW uW cI cB cR cM cJ σW) (some (.int r)) (xW uW cI cB cR cM cJ σW) := by
  refine KZ.ofZ (own := RX6) (cc := cX6_holds) (maxL := 3) (by decide) rfl rfl (Nat.le_of_ble_eq_true rfl) ?_
  intro p e s m args below meth c R Q A ls S hRf hRl hK hA hP hD hS hl hZ hret
  obtain ⟨hx, hb, hml, hown, hts⟩ := id S
  have f17 := hts (.fieldLink RX6 17 "PenniesAway$Row" "size" "I") (by decide +kernel)
  have hinX6 : ∀ w ∈ wsX60, w ∈ wsX6_holds := fun w hw => List.mem_cons_of_mem _ (List.mem_append_right _ hw)
  have hl : lv_has ls 3 [(0, .ref (uW 0)), (1, .int a1), (2, .int a2)] := hl
  have hre : ∀ (x : Int32) (pc : Nat) (ls : Array Slot) (H : Heap) (locs : List Loc), (some (x) : Option Int32) = some (r) → va_P D vwCl (xW uW cI cB cR cM cJ σW) H → va_D A (xW uW cI cB cR cM cJ σW) → va_S A s.heap H locs → decode cX6_holds pc = .ok (.ireturn, 1) → narrow .boolean (.int x) = .int x → W p l e R s m args below meth c H locs 0 0 Q (F0 m pc ls [.int x]) := by intro x pc ls H locs he; cases he; exact hret pc ls H locs
  unfold FW_holds at hf
  refine lv_iload_n hx hb dX6_holds_0 rfl (lv_at hl 1 rfl) ?_
  refine lv_if_lt (tgt := 26) hx hb dX6_holds_1 (by decide) (fun c1 => ?_) (fun c1 => ?_)
  · have hf := (if_pos c1).symm.trans hf
    refine lv_iconst (v := 0) hx hb dX6_holds_26 (by decide) ?_
    exact hre _ _ _ _ _ hf hP hD hS dX6_holds_27 rfl
  · have hf := (if_neg c1).symm.trans hf
    refine lv_iload_n hx hb dX6_holds_4 rfl (lv_at hl 2 rfl) ?_
    refine lv_if_lt (tgt := 26) hx hb dX6_holds_5 (by decide) (fun c2 => ?_) (fun c2 => ?_)
    · have hf := (if_pos c2).symm.trans hf
      refine lv_iconst (v := 0) hx hb dX6_holds_26 (by decide) ?_
      exact hre _ _ _ _ _ hf hP hD hS dX6_holds_27 rfl
    · have hf := (if_neg c2).symm.trans hf
      refine lv_iload_n hx hb dX6_holds_8 rfl (lv_at hl 1 rfl) ?_
      refine lv_i2l hx hb dX6_holds_9 rfl ?_
      refine lv_iload_n hx hb dX6_holds_10 rfl (lv_at hl 2 rfl) ?_
      refine lv_i2l hx hb dX6_holds_11 rfl ?_
      refine lv_ladd hx hb dX6_holds_12 ?_
      refine lv_aload_n hx hb dX6_holds_13 rfl (lv_at hl 0 rfl) ?_
      refine Wg_2 S hinX6 hK hP 0 rfl f17 dX6_holds_14 ?_
      refine lv_i2l hx hb dX6_holds_17 rfl ?_
      refine W.lcmp hx hb dX6_holds_18 ?_
      refine lv_if_gt (tgt := 26) hx hb dX6_holds_19 (by decide) (fun c3 => ?_) (fun c3 => ?_)
      · have hf := (if_pos c3).symm.trans hf
        refine lv_iconst (v := 0) hx hb dX6_holds_26 (by decide) ?_
        exact hre _ _ _ _ _ hf hP hD hS dX6_holds_27 rfl
      · have hf := (if_neg c3).symm.trans hf
        refine lv_iconst (v := 1) hx hb dX6_holds_22 (by decide) ?_
        refine lv_goto (tgt := 27) hx hb dX6_holds_23 (by decide) ?_
        exact hre _ _ _ _ _ hf hP hD hS dX6_holds_27 rfl
def FW_put_26 (σW : MS) (l1 : Int32) (l3 : Int32) : Option (Int32 × MS) :=
  gd (¬ ((l1 : Int32) < 0 ∨ 40 ≤ Int32.toNatClampNeg l1)) (nm (setA σW 0 (Int32.toNatClampNeg l1) l3) fun (σ6 : MS) => some (l3, σ6))
def FW_put (σW : MS) (a1 : Int32) (a2 : Int32) : Option (Int32 × MS) :=
  if (σW.1 1) = 0 then (nm ((Int32.toInt8 a2).toInt32) fun (x4 : Int32) => FW_put_26 σW a1 x4) else (if (σW.1 1) = 1 then (nm ((Int32.toInt16 a2).toInt32) fun (x3 : Int32) => FW_put_26 σW a1 x3) else (FW_put_26 σW a1 a2))
set_option maxHeartbeats 4000000 in
set_option maxRecDepth 100000 in
theorem kW_put (l : Launch) (D : va_G) (uW : Nat → Nat) (cI cB cR cM cJ : ClassId) (t : Nat → Nat) (σW : MS) (a1 : Int32) (a2 : Int32) (r : Int32) (σW' : MS) (hf : FW_put σW a1 a2 = some (r, σW')) : KZ l D (ctys cI cB cR cM cJ) t yX6_put wsX6_put 0 0 [.ref (uW 0), .int a1, .int a2] (xW uW cI cB cR cM cJ σW) (some (.int r)) (xW uW cI cB cR cM cJ σW') := by
  refine KZ.ofI (own := RX6) (cc := cX6_put) (maxL := 4) (by decide) rfl rfl (Nat.le_of_ble_eq_true rfl) ?_
  intro p e s m args below meth c R Q A ls S hRf hRl hK hA hP hD hS hl hZ hret
  obtain ⟨hx, hb, hml, hown, hts⟩ := id S
  have f13 := hts (.fieldLink RX6 13 "PenniesAway$Row" "lane" "I") (by decide +kernel)
  have hinX6 : ∀ w ∈ wsX60, w ∈ wsX6_put := fun w hw => List.mem_cons_of_mem _ (List.mem_append_right _ hw)
  have f9 := hts (.fieldLink RX6 9 "PenniesAway$Row" "items" "[I") (by decide +kernel)
  have hl : lv_has ls 4 [(0, .ref (uW 0)), (1, .int a1), (2, .int a2)] := hl
  have hre : ∀ (x : Int32) (τW : MS) (pc : Nat) (ls : Array Slot) (H : Heap) (locs : List Loc), (some (x, τW) : Option (Int32 × MS)) = some (r, σW') → va_P D vwCl (xW uW cI cB cR cM cJ τW) H → va_D A (xW uW cI cB cR cM cJ τW) → va_S A s.heap H locs → decode cX6_put pc = .ok (.ireturn, 1) → W p l e R s m args below meth c H locs 0 0 Q (F0 m pc ls [.int x]) := by intro x τW pc ls H locs he; cases he; exact hret pc ls H locs
  have b26 : ∀ (σW : MS) (l1 : Int32) (l3 : Int32) (ls : Array Slot) (H : Heap) (locs : List Loc), FW_put_26 σW l1 l3 = some (r, σW') → lv_has ls 4 [(0, .ref (uW 0)), (1, .int l1), (3, .int l3)] → va_P D vwCl (xW uW cI cB cR cM cJ σW) H → va_D A (xW uW cI cB cR cM cJ σW) → va_S A s.heap H locs → W p l e R s m args below meth c H locs 0 0 Q (F0 m 26 ls []) := by
    intro σW l1 l3 ls H locs hf hl hP hD hS
    unfold FW_put_26 at hf
    refine lv_aload_n hx hb dX6_put_26 rfl (lv_at hl 0 rfl) ?_
    refine Wg_0 S hinX6 hK hP 0 rfl f9 dX6_put_27 ?_
    refine lv_iload_n hx hb dX6_put_30 rfl (lv_at hl 1 rfl) ?_
    refine lv_iload_n hx hb dX6_put_31 rfl (lv_at hl 2 rfl) ?_
    obtain ⟨g5, hf⟩ := gd_some hf
    refine va_iast (f := σW.2 0) (n := 40) (cA := cI) hx hb hK hP hD hS 1 0 rfl rfl g5 dX6_put_32 (fun H locs hP hD hS => ?_)
    obtain ⟨σ6, eσ6, hf⟩ := nm_some hf
    replace hP : va_P D vwCl (xW uW cI cB cR cM cJ σ6) H := by rw [eσ6]; exact hP
    replace hD : va_D A (xW uW cI cB cR cM cJ σ6) := by rw [eσ6]; exact hD
    refine lv_iload_n hx hb dX6_put_33 rfl (lv_at hl 2 rfl) ?_
    exact hre _ _ _ _ _ _ hf hP hD hS dX6_put_34
  unfold FW_put at hf
  refine lv_iload_n hx hb dX6_put_0 rfl (lv_at hl 2 rfl) ?_
  refine lv_istore_n (lv' := [(3, .int a2), (0, .ref (uW 0)), (1, .int a1), (2, .int a2)]) hx hb dX6_put_1 rfl hl (by decide) rfl (fun ls hl => ?_)
  refine lv_aload_n hx hb dX6_put_2 rfl (lv_at hl 1 rfl) ?_
  refine Wg_1 S hinX6 hK hP 0 rfl f13 dX6_put_3 ?_
  refine lv_if_ne (tgt := 15) hx hb dX6_put_6 (by decide) (fun c1 => ?_) (fun c1 => ?_)
  · have hf := (if_neg c1).symm.trans hf
    refine lv_aload_n hx hb dX6_put_15 rfl (lv_at hl 1 rfl) ?_
    refine Wg_1 S hinX6 hK hP 0 rfl f13 dX6_put_16 ?_
    refine lv_iconst (v := 1) hx hb dX6_put_19 (by decide) ?_
    refine lv_icmp_ne (tgt := 26) hx hb dX6_put_20 (by decide) (fun c2 => ?_) (fun c2 => ?_)
    · have hf := (if_neg c2).symm.trans hf
      exact b26 _ _ _ _ _ _ hf (lv_sub hl [1, 2, 0] rfl) hP hD hS
    · have hf := (if_pos c2).symm.trans hf
      refine lv_iload_n hx hb dX6_put_23 rfl (lv_at hl 3 rfl) ?_
      refine lv_i2s hx hb dX6_put_24 rfl ?_
      refine lv_topi (fun x3 ex3 => ?_)
      have hf := nm_at ex3 hf
      refine lv_istore_n (lv' := [(3, .int x3), (0, .ref (uW 0)), (1, .int a1), (2, .int a2)]) hx hb dX6_put_25 rfl hl (by decide) rfl (fun ls hl => ?_)
      exact b26 _ _ _ _ _ _ hf (lv_sub hl [1, 2, 0] rfl) hP hD hS
  · have hf := (if_pos c1).symm.trans hf
    refine lv_iload_n hx hb dX6_put_9 rfl (lv_at hl 3 rfl) ?_
    refine lv_i2b hx hb dX6_put_10 rfl ?_
    refine lv_topi (fun x4 ex4 => ?_)
    have hf := nm_at ex4 hf
    refine lv_istore_n (lv' := [(3, .int x4), (0, .ref (uW 0)), (1, .int a1), (2, .int a2)]) hx hb dX6_put_11 rfl hl (by decide) rfl (fun ls hl => ?_)
    refine lv_goto (tgt := 26) hx hb dX6_put_12 (by decide) ?_
    exact b26 _ _ _ _ _ _ hf (lv_sub hl [1, 2, 0] rfl) hP hD hS
def FT_append_5 : Nat → MS → Int64 → Int32 → Option MS
  | 0, _, _, _ => none
  | n + 1, σT, l1, l4 => if l4 < 0 then (some (σT)) else (gd (¬ (((σT.1 1) : Int32) < 0 ∨ 500 ≤ Int32.toNatClampNeg (σT.1 1))) (nm (setA σT 0 (Int32.toNatClampNeg (σT.1 1)) ((Int32.toInt8 (Int64.toInt32 (Int64.toUInt64 l1 >>> ((Int32.toInt64 (8 * l4)).toUInt64 &&& Int64.toUInt64 63)).toInt64)).toInt32)) fun (σ4 : MS) => nm (setF σ4 1 ((σ4.1 1) + 1)) fun (σ5 : MS) => nm (l4 + (-1)) fun (x6 : Int32) => (FT_append_5 n) σ5 l1 x6))
def FT_append (σT : MS) (a1 : Int64) (a3 : Int32) : Option MS :=
  nm (a3 - 1) fun (x1 : Int32) => FT_append_5 fuelN σT a1 x1
set_option maxHeartbeats 4000000 in
set_option maxRecDepth 100000 in
theorem kT_append (l : Launch) (D : va_G) (uT : Nat → Nat) (cI cB cR cM cJ : ClassId) (t : Nat → Nat) (σT : MS) (a1 : Int64) (a3 : Int32) (σT' : MS) (hf : FT_append σT a1 a3 = some (σT')) : KZ l D (ctys cI cB cR cM cJ) t yX7_append wsX7_append 0 0 [.ref (uT 0), .long a1, .int a3] (xT uT cI cB cR cM cJ σT) none (xT uT cI cB cR cM cJ σT') := by
  refine KZ.ofV (own := RX7) (cc := cX7_append) (maxL := 5) (by decide) rfl rfl (Nat.le_of_ble_eq_true rfl) ?_
  intro p e s m args below meth c R Q A ls S hRf hRl hK hA hP hD hS hl hZ hret
  obtain ⟨hx, hb, hml, hown, hts⟩ := id S
  have f9 := hts (.fieldLink RX7 9 "PenniesAway$Tape" "bytes" "[B") (by decide +kernel)
  have hinX7 : ∀ w ∈ wsX70, w ∈ wsX7_append := fun w hw => List.mem_cons_of_mem _ (List.mem_append_right _ hw)
  have f13 := hts (.fieldLink RX7 13 "PenniesAway$Tape" "length" "I") (by decide +kernel)
  have hl : lv_has ls 5 [(0, .ref (uT 0)), (1, .long a1), (3, .int a3)] := hl
  have hre : ∀ (τT : MS) (pc : Nat) (ls : Array Slot) (H : Heap) (locs : List Loc), (some (τT) : Option MS) = some (σT') → va_P D vwCl (xT uT cI cB cR cM cJ τT) H → va_D A (xT uT cI cB cR cM cJ τT) → va_S A s.heap H locs → decode cX7_append pc = .ok (.return_, 1) → W p l e R s m args below meth c H locs 0 0 Q (F0 m pc ls []) := by intro τT pc ls H locs he; cases he; exact hret pc ls H locs
  have b5 : ∀ (n : Nat), ∀ (σT : MS) (l1 : Int64) (l4 : Int32) (ls : Array Slot) (H : Heap) (locs : List Loc), FT_append_5 n σT l1 l4 = some (σT') → lv_has ls 5 [(0, .ref (uT 0)), (1, .long l1), (4, .int l4)] → va_P D vwCl (xT uT cI cB cR cM cJ σT) H → va_D A (xT uT cI cB cR cM cJ σT) → va_S A s.heap H locs → W p l e R s m args below meth c H locs 0 0 Q (F0 m 5 ls []) := by
    intro n
    induction n with
    | zero => intro σT l1 l4 ls H locs hf; exact absurd hf (by simp [FT_append_5])
    | succ n ih =>
      intro σT l1 l4 ls H locs hf hl hP hD hS
      rw [FT_append_5] at hf
      refine lv_iload hx hb dX7_append_5 (lv_at hl 2 rfl) ?_
      refine lv_if_lt (tgt := 44) hx hb dX7_append_7 (by decide) (fun c2 => ?_) (fun c2 => ?_)
      · have hf := (if_pos c2).symm.trans hf
        exact hre _ _ _ _ _ hf hP hD hS dX7_append_44
      · have hf := (if_neg c2).symm.trans hf
        refine lv_aload_n hx hb dX7_append_10 rfl (lv_at hl 0 rfl) ?_
        refine Tg_0 S hinX7 hK hP 0 rfl f9 dX7_append_11 ?_
        refine lv_aload_n hx hb dX7_append_14 rfl (lv_at hl 0 rfl) ?_
        refine Tg_1 S hinX7 hK hP 0 rfl f13 dX7_append_15 ?_
        refine lv_lload_n hx hb dX7_append_18 rfl (lv_at hl 1 rfl) ?_
        refine lv_bipush (v := 8) hx hb dX7_append_19 (by decide) ?_
        refine lv_iload hx hb dX7_append_21 (lv_at hl 2 rfl) ?_
        refine lv_imul hx hb dX7_append_23 ?_
        refine lv_lushr hx hb dX7_append_24 rfl ?_
        refine lv_l2i hx hb dX7_append_25 rfl ?_
        refine lv_i2b hx hb dX7_append_26 rfl ?_
        obtain ⟨g3, hf⟩ := gd_some hf
        refine va_bast (f := σT.2 0) (n := 500) (cA := cB) hx hb hK hP hD hS 1 1 rfl rfl g3 dX7_append_27 (fun H locs hP hD hS => ?_)
        rw [pk_vb] at hP hD
        obtain ⟨σ4, eσ4, hf⟩ := nm_some hf
        replace hP : va_P D vwCl (xT uT cI cB cR cM cJ σ4) H := by rw [eσ4]; exact hP
        replace hD : va_D A (xT uT cI cB cR cM cJ σ4) := by rw [eσ4]; exact hD
        refine lv_aload_n hx hb dX7_append_28 rfl (lv_at hl 0 rfl) ?_
        refine lv_dup hx hb dX7_append_29 rfl ?_
        refine Tg_1 S hinX7 hK hP 0 rfl f13 dX7_append_30 ?_
        refine lv_iconst (v := 1) hx hb dX7_append_33 (by decide) ?_
        refine lv_iadd hx hb dX7_append_34 ?_
        refine Tp_1 S hinX7 hK hP hD hS 0 rfl f13 dX7_append_35 (fun H locs hP hD hS => ?_)
        obtain ⟨σ5, eσ5, hf⟩ := nm_some hf
        replace hP : va_P D vwCl (xT uT cI cB cR cM cJ σ5) H := by rw [eσ5]; exact hP
        replace hD : va_D A (xT uT cI cB cR cM cJ σ5) := by rw [eσ5]; exact hD
        obtain ⟨x6, ex6, hf⟩ := nm_some hf
        refine lv_iinc (v := x6) (lv' := [(4, .int x6), (0, .ref (uT 0)), (1, .long l1)]) hx hb dX7_append_38 hl (k := 2) rfl (by rw [ex6]; rfl) (by decide) rfl (fun ls hl => ?_)
        refine lv_goto (tgt := 5) hx hb dX7_append_41 (by decide) ?_
        exact ih _ _ _ _ _ _ hf (lv_sub hl [1, 2, 0] rfl) hP hD hS
  unfold FT_append at hf
  refine lv_iload_n hx hb dX7_append_0 rfl (lv_at hl 2 rfl) ?_
  refine lv_iconst (v := 1) hx hb dX7_append_1 (by decide) ?_
  refine lv_isub hx hb dX7_append_2 ?_
  refine lv_topi (fun x1 ex1 => ?_)
  have hf := nm_at ex1 hf
  refine lv_istore (lv' := [(4, .int x1), (0, .ref (uT 0)), (1, .long a1), (3, .int a3)]) hx hb dX7_append_3 hl (by decide) rfl (fun ls hl => ?_)
  exact b5 fuelN _ _ _ _ _ _ hf (lv_sub hl [1, 2, 0] rfl) hP hD hS
def FT_empty (σT : MS) : Option MS :=
  nm (setF σT 1 0) fun (σ1 : MS) => some (σ1)
set_option maxHeartbeats 4000000 in
set_option maxRecDepth 100000 in
theorem kT_empty (l : Launch) (D : va_G) (uT : Nat → Nat) (cI cB cR cM cJ : ClassId) (t : Nat → Nat) (σT : MS) (σT' : MS) (hf : FT_empty σT = some (σT')) : KZ l D (ctys cI cB cR cM cJ) t yX7_empty wsX7_empty 0 0 [.ref (uT 0)] (xT uT cI cB cR cM cJ σT) none (xT uT cI cB cR cM cJ σT') := by
  refine KZ.ofV (own := RX7) (cc := cX7_empty) (maxL := 1) (by decide) rfl rfl (Nat.le_of_ble_eq_true rfl) ?_
  intro p e s m args below meth c R Q A ls S hRf hRl hK hA hP hD hS hl hZ hret
  obtain ⟨hx, hb, hml, hown, hts⟩ := id S
  have f13 := hts (.fieldLink RX7 13 "PenniesAway$Tape" "length" "I") (by decide +kernel)
  have hinX7 : ∀ w ∈ wsX70, w ∈ wsX7_empty := fun w hw => List.mem_cons_of_mem _ (List.mem_append_right _ hw)
  have hl : lv_has ls 1 [(0, .ref (uT 0))] := hl
  have hre : ∀ (τT : MS) (pc : Nat) (ls : Array Slot) (H : Heap) (locs : List Loc), (some (τT) : Option MS) = some (σT') → va_P D vwCl (xT uT cI cB cR cM cJ τT) H → va_D A (xT uT cI cB cR cM cJ τT) → va_S A s.heap H locs → decode cX7_empty pc = .ok (.return_, 1) → W p l e R s m args below meth c H locs 0 0 Q (F0 m pc ls []) := by intro τT pc ls H locs he; cases he; exact hret pc ls H locs
  unfold FT_empty at hf
  refine lv_aload_n hx hb dX7_empty_0 rfl (lv_at hl 0 rfl) ?_
  refine lv_iconst (v := 0) hx hb dX7_empty_1 (by decide) ?_
  refine Tp_1 S hinX7 hK hP hD hS 0 rfl f13 dX7_empty_2 (fun H locs hP hD hS => ?_)
  obtain ⟨σ1, eσ1, hf⟩ := nm_some hf
  replace hP : va_P D vwCl (xT uT cI cB cR cM cJ σ1) H := by rw [eσ1]; exact hP
  replace hD : va_D A (xT uT cI cB cR cM cJ σ1) := by rw [eσ1]; exact hD
  exact hre _ _ _ _ _ hf hP hD hS dX7_empty_5
def FT_sortOfByte_35 (σT : MS) (l2 : Int32) : Option Int32 :=
  if l2 = 32 then (some (5)) else (if l2 = 10 then (some (5)) else (if l2 = 59 then (some (3)) else (some (4))))
def FT_sortOfByte_21 (σT : MS) (l2 : Int32) : Option Int32 :=
  if l2 < 48 then (FT_sortOfByte_35 σT l2) else (if 57 < l2 then (FT_sortOfByte_35 σT l2) else (some (2)))
def FT_sortOfByte (σT : MS) (a1 : Int32) : Option Int32 :=
  gd (¬ ((a1 : Int32) < 0 ∨ 500 ≤ Int32.toNatClampNeg a1)) (nm (σT.2 0 (Int32.toNatClampNeg a1)) fun (x2 : Int32) => if x2 < 97 then (FT_sortOfByte_21 σT x2) else (if 122 < x2 then (FT_sortOfByte_21 σT x2) else (some (1))))
set_option maxHeartbeats 4000000 in
set_option maxRecDepth 100000 in
theorem kT_sortOfByte (l : Launch) (D : va_G) (uT : Nat → Nat) (cI cB cR cM cJ : ClassId) (t : Nat → Nat) (σT : MS) (a1 : Int32) (r : Int32) (hf : FT_sortOfByte σT a1 = some (r)) : KZ l D (ctys cI cB cR cM cJ) t yX7_sortOfByte wsX7_sortOfByte 0 0 [.ref (uT 0), .int a1] (xT uT cI cB cR cM cJ σT) (some (.int r)) (xT uT cI cB cR cM cJ σT) := by
  refine KZ.ofI (own := RX7) (cc := cX7_sortOfByte) (maxL := 3) (by decide) rfl rfl (Nat.le_of_ble_eq_true rfl) ?_
  intro p e s m args below meth c R Q A ls S hRf hRl hK hA hP hD hS hl hZ hret
  obtain ⟨hx, hb, hml, hown, hts⟩ := id S
  have f9 := hts (.fieldLink RX7 9 "PenniesAway$Tape" "bytes" "[B") (by decide +kernel)
  have hinX7 : ∀ w ∈ wsX70, w ∈ wsX7_sortOfByte := fun w hw => List.mem_cons_of_mem _ (List.mem_append_right _ hw)
  have hl : lv_has ls 3 [(0, .ref (uT 0)), (1, .int a1)] := hl
  have hre : ∀ (x : Int32) (pc : Nat) (ls : Array Slot) (H : Heap) (locs : List Loc), (some (x) : Option Int32) = some (r) → va_P D vwCl (xT uT cI cB cR cM cJ σT) H → va_D A (xT uT cI cB cR cM cJ σT) → va_S A s.heap H locs → decode cX7_sortOfByte pc = .ok (.ireturn, 1) → W p l e R s m args below meth c H locs 0 0 Q (F0 m pc ls [.int x]) := by intro x pc ls H locs he; cases he; exact hret pc ls H locs
  have b35 : ∀ (l2 : Int32) (ls : Array Slot) (H : Heap) (locs : List Loc), FT_sortOfByte_35 σT l2 = some (r) → lv_has ls 3 [(2, .int l2)] → va_P D vwCl (xT uT cI cB cR cM cJ σT) H → va_D A (xT uT cI cB cR cM cJ σT) → va_S A s.heap H locs → W p l e R s m args below meth c H locs 0 0 Q (F0 m 35 ls []) := by
    intro l2 ls H locs hf hl hP hD hS
    unfold FT_sortOfByte_35 at hf
    refine lv_iload_n hx hb dX7_sortOfByte_35 rfl (lv_at hl 0 rfl) ?_
    refine lv_bipush (v := 32) hx hb dX7_sortOfByte_36 (by decide) ?_
    refine lv_icmp_eq (tgt := 47) hx hb dX7_sortOfByte_38 (by decide) (fun c7 => ?_) (fun c7 => ?_)
    · have hf := (if_pos c7).symm.trans hf
      refine lv_iconst (v := 5) hx hb dX7_sortOfByte_47 (by decide) ?_
      exact hre _ _ _ _ _ hf hP hD hS dX7_sortOfByte_48
    · have hf := (if_neg c7).symm.trans hf
      refine lv_iload_n hx hb dX7_sortOfByte_41 rfl (lv_at hl 0 rfl) ?_
      refine lv_bipush (v := 10) hx hb dX7_sortOfByte_42 (by decide) ?_
      refine lv_icmp_ne (tgt := 49) hx hb dX7_sortOfByte_44 (by decide) (fun c8 => ?_) (fun c8 => ?_)
      · have hf := (if_neg c8).symm.trans hf
        refine lv_iload_n hx hb dX7_sortOfByte_49 rfl (lv_at hl 0 rfl) ?_
        refine lv_bipush (v := 59) hx hb dX7_sortOfByte_50 (by decide) ?_
        refine lv_icmp_ne (tgt := 59) hx hb dX7_sortOfByte_52 (by decide) (fun c9 => ?_) (fun c9 => ?_)
        · have hf := (if_neg c9).symm.trans hf
          refine lv_iconst (v := 4) hx hb dX7_sortOfByte_59 (by decide) ?_
          exact hre _ _ _ _ _ hf hP hD hS dX7_sortOfByte_60
        · have hf := (if_pos c9).symm.trans hf
          refine lv_iconst (v := 3) hx hb dX7_sortOfByte_55 (by decide) ?_
          refine lv_goto (tgt := 60) hx hb dX7_sortOfByte_56 (by decide) ?_
          exact hre _ _ _ _ _ hf hP hD hS dX7_sortOfByte_60
      · have hf := (if_pos c8).symm.trans hf
        refine lv_iconst (v := 5) hx hb dX7_sortOfByte_47 (by decide) ?_
        exact hre _ _ _ _ _ hf hP hD hS dX7_sortOfByte_48
  have b21 : ∀ (l2 : Int32) (ls : Array Slot) (H : Heap) (locs : List Loc), FT_sortOfByte_21 σT l2 = some (r) → lv_has ls 3 [(2, .int l2)] → va_P D vwCl (xT uT cI cB cR cM cJ σT) H → va_D A (xT uT cI cB cR cM cJ σT) → va_S A s.heap H locs → W p l e R s m args below meth c H locs 0 0 Q (F0 m 21 ls []) := by
    intro l2 ls H locs hf hl hP hD hS
    unfold FT_sortOfByte_21 at hf
    refine lv_iload_n hx hb dX7_sortOfByte_21 rfl (lv_at hl 0 rfl) ?_
    refine lv_bipush (v := 48) hx hb dX7_sortOfByte_22 (by decide) ?_
    refine lv_icmp_lt (tgt := 35) hx hb dX7_sortOfByte_24 (by decide) (fun c5 => ?_) (fun c5 => ?_)
    · have hf := (if_pos c5).symm.trans hf
      exact b35 _ _ _ _ hf (lv_sub hl [0] rfl) hP hD hS
    · have hf := (if_neg c5).symm.trans hf
      refine lv_iload_n hx hb dX7_sortOfByte_27 rfl (lv_at hl 0 rfl) ?_
      refine lv_bipush (v := 57) hx hb dX7_sortOfByte_28 (by decide) ?_
      refine lv_icmp_gt (tgt := 35) hx hb dX7_sortOfByte_30 (by decide) (fun c6 => ?_) (fun c6 => ?_)
      · have hf := (if_pos c6).symm.trans hf
        exact b35 _ _ _ _ hf (lv_sub hl [0] rfl) hP hD hS
      · have hf := (if_neg c6).symm.trans hf
        refine lv_iconst (v := 2) hx hb dX7_sortOfByte_33 (by decide) ?_
        exact hre _ _ _ _ _ hf hP hD hS dX7_sortOfByte_34
  unfold FT_sortOfByte at hf
  refine lv_aload_n hx hb dX7_sortOfByte_0 rfl (lv_at hl 0 rfl) ?_
  refine Tg_0 S hinX7 hK hP 0 rfl f9 dX7_sortOfByte_1 ?_
  refine lv_iload_n hx hb dX7_sortOfByte_4 rfl (lv_at hl 1 rfl) ?_
  obtain ⟨g1, hf⟩ := gd_some hf
  refine va_bald (f := σT.2 0) (n := 500) (cA := cB) hx hb hK hP 1 1 rfl rfl g1 dX7_sortOfByte_5 ?_
  refine lv_topi (fun x2 ex2 => ?_)
  have hf := nm_at ex2 hf
  refine lv_istore_n (lv' := [(2, .int x2), (0, .ref (uT 0)), (1, .int a1)]) hx hb dX7_sortOfByte_6 rfl hl (by decide) rfl (fun ls hl => ?_)
  refine lv_iload_n hx hb dX7_sortOfByte_7 rfl (lv_at hl 0 rfl) ?_
  refine lv_bipush (v := 97) hx hb dX7_sortOfByte_8 (by decide) ?_
  refine lv_icmp_lt (tgt := 21) hx hb dX7_sortOfByte_10 (by decide) (fun c3 => ?_) (fun c3 => ?_)
  · have hf := (if_pos c3).symm.trans hf
    exact b21 _ _ _ _ hf (lv_sub hl [0] rfl) hP hD hS
  · have hf := (if_neg c3).symm.trans hf
    refine lv_iload_n hx hb dX7_sortOfByte_13 rfl (lv_at hl 0 rfl) ?_
    refine lv_bipush (v := 122) hx hb dX7_sortOfByte_14 (by decide) ?_
    refine lv_icmp_gt (tgt := 21) hx hb dX7_sortOfByte_16 (by decide) (fun c4 => ?_) (fun c4 => ?_)
    · have hf := (if_pos c4).symm.trans hf
      exact b21 _ _ _ _ hf (lv_sub hl [0] rfl) hP hD hS
    · have hf := (if_neg c4).symm.trans hf
      refine lv_iconst (v := 1) hx hb dX7_sortOfByte_19 (by decide) ?_
      exact hre _ _ _ _ _ hf hP hD hS dX7_sortOfByte_20
def FT_weighFigures_29 : Nat → MS → Int32 → Option MS
  | 0, _, _ => none
  | n + 1, σT, l1 => if (σT.1 5) ≤ l1 then (some (σT)) else (gd (¬ ((l1 : Int32) < 0 ∨ 500 ≤ Int32.toNatClampNeg l1)) (nm (setF σT 4 (((σT.1 4) * 10) + ((σT.2 0 (Int32.toNatClampNeg l1)) - 48))) fun (σ7 : MS) => nm (l1 + 1) fun (x8 : Int32) => (FT_weighFigures_29 n) σ7 x8))
def FT_weighFigures (σT : MS) : Option MS :=
  if ((σT.1 5) - (σT.1 3)) ≤ 3 then (nm (setF σT 4 0) fun (σ2 : MS) => nm (σ2.1 3) fun (x3 : Int32) => FT_weighFigures_29 fuelN σ2 x3) else (nm (setF σT 2 4) fun (σ4 : MS) => some (σ4))
set_option maxHeartbeats 4000000 in
set_option maxRecDepth 100000 in
theorem kT_weighFigures (l : Launch) (D : va_G) (uT : Nat → Nat) (cI cB cR cM cJ : ClassId) (t : Nat → Nat) (σT : MS) (σT' : MS) (hf : FT_weighFigures σT = some (σT')) : KZ l D (ctys cI cB cR cM cJ) t yX7_weighFigures wsX7_weighFigures 0 0 [.ref (uT 0)] (xT uT cI cB cR cM cJ σT) none (xT uT cI cB cR cM cJ σT') := by
  refine KZ.ofV (own := RX7) (cc := cX7_weighFigures) (maxL := 2) (by decide) rfl rfl (Nat.le_of_ble_eq_true rfl) ?_
  intro p e s m args below meth c R Q A ls S hRf hRl hK hA hP hD hS hl hZ hret
  obtain ⟨hx, hb, hml, hown, hts⟩ := id S
  have f26 := hts (.fieldLink RX7 26 "PenniesAway$Tape" "end" "I") (by decide +kernel)
  have hinX7 : ∀ w ∈ wsX70, w ∈ wsX7_weighFigures := fun w hw => List.mem_cons_of_mem _ (List.mem_append_right _ hw)
  have f20 := hts (.fieldLink RX7 20 "PenniesAway$Tape" "start" "I") (by decide +kernel)
  have f23 := hts (.fieldLink RX7 23 "PenniesAway$Tape" "number" "I") (by decide +kernel)
  have f17 := hts (.fieldLink RX7 17 "PenniesAway$Tape" "sort" "I") (by decide +kernel)
  have f9 := hts (.fieldLink RX7 9 "PenniesAway$Tape" "bytes" "[B") (by decide +kernel)
  have hl : lv_has ls 2 [(0, .ref (uT 0))] := hl
  have hre : ∀ (τT : MS) (pc : Nat) (ls : Array Slot) (H : Heap) (locs : List Loc), (some (τT) : Option MS) = some (σT') → va_P D vwCl (xT uT cI cB cR cM cJ τT) H → va_D A (xT uT cI cB cR cM cJ τT) → va_S A s.heap H locs → decode cX7_weighFigures pc = .ok (.return_, 1) → W p l e R s m args below meth c H locs 0 0 Q (F0 m pc ls []) := by intro τT pc ls H locs he; cases he; exact hret pc ls H locs
  have b29 : ∀ (n : Nat), ∀ (σT : MS) (l1 : Int32) (ls : Array Slot) (H : Heap) (locs : List Loc), FT_weighFigures_29 n σT l1 = some (σT') → lv_has ls 2 [(0, .ref (uT 0)), (1, .int l1)] → va_P D vwCl (xT uT cI cB cR cM cJ σT) H → va_D A (xT uT cI cB cR cM cJ σT) → va_S A s.heap H locs → W p l e R s m args below meth c H locs 0 0 Q (F0 m 29 ls []) := by
    intro n
    induction n with
    | zero => intro σT l1 ls H locs hf; exact absurd hf (by simp [FT_weighFigures_29])
    | succ n ih =>
      intro σT l1 ls H locs hf hl hP hD hS
      rw [FT_weighFigures_29] at hf
      refine lv_iload_n hx hb dX7_weighFigures_29 rfl (lv_at hl 1 rfl) ?_
      refine lv_aload_n hx hb dX7_weighFigures_30 rfl (lv_at hl 0 rfl) ?_
      refine Tg_5 S hinX7 hK hP 0 rfl f26 dX7_weighFigures_31 ?_
      refine lv_icmp_ge (tgt := 64) hx hb dX7_weighFigures_34 (by decide) (fun c5 => ?_) (fun c5 => ?_)
      · have hf := (if_pos c5).symm.trans hf
        exact hre _ _ _ _ _ hf hP hD hS dX7_weighFigures_64
      · have hf := (if_neg c5).symm.trans hf
        refine lv_aload_n hx hb dX7_weighFigures_37 rfl (lv_at hl 0 rfl) ?_
        refine lv_aload_n hx hb dX7_weighFigures_38 rfl (lv_at hl 0 rfl) ?_
        refine Tg_4 S hinX7 hK hP 0 rfl f23 dX7_weighFigures_39 ?_
        refine lv_bipush (v := 10) hx hb dX7_weighFigures_42 (by decide) ?_
        refine lv_imul hx hb dX7_weighFigures_44 ?_
        refine lv_aload_n hx hb dX7_weighFigures_45 rfl (lv_at hl 0 rfl) ?_
        refine Tg_0 S hinX7 hK hP 0 rfl f9 dX7_weighFigures_46 ?_
        refine lv_iload_n hx hb dX7_weighFigures_49 rfl (lv_at hl 1 rfl) ?_
        obtain ⟨g6, hf⟩ := gd_some hf
        refine va_bald (f := σT.2 0) (n := 500) (cA := cB) hx hb hK hP 1 1 rfl rfl g6 dX7_weighFigures_50 ?_
        refine lv_bipush (v := 48) hx hb dX7_weighFigures_51 (by decide) ?_
        refine lv_isub hx hb dX7_weighFigures_53 ?_
        refine lv_iadd hx hb dX7_weighFigures_54 ?_
        refine Tp_4 S hinX7 hK hP hD hS 0 rfl f23 dX7_weighFigures_55 (fun H locs hP hD hS => ?_)
        obtain ⟨σ7, eσ7, hf⟩ := nm_some hf
        replace hP : va_P D vwCl (xT uT cI cB cR cM cJ σ7) H := by rw [eσ7]; exact hP
        replace hD : va_D A (xT uT cI cB cR cM cJ σ7) := by rw [eσ7]; exact hD
        obtain ⟨x8, ex8, hf⟩ := nm_some hf
        refine lv_iinc (v := x8) (lv' := [(1, .int x8), (0, .ref (uT 0))]) hx hb dX7_weighFigures_58 hl (k := 1) rfl (by rw [ex8]; rfl) (by decide) rfl (fun ls hl => ?_)
        refine lv_goto (tgt := 29) hx hb dX7_weighFigures_61 (by decide) ?_
        exact ih _ _ _ _ _ hf (lv_sub hl [1, 0] rfl) hP hD hS
  unfold FT_weighFigures at hf
  refine lv_aload_n hx hb dX7_weighFigures_0 rfl (lv_at hl 0 rfl) ?_
  refine Tg_5 S hinX7 hK hP 0 rfl f26 dX7_weighFigures_1 ?_
  refine lv_aload_n hx hb dX7_weighFigures_4 rfl (lv_at hl 0 rfl) ?_
  refine Tg_3 S hinX7 hK hP 0 rfl f20 dX7_weighFigures_5 ?_
  refine lv_isub hx hb dX7_weighFigures_8 ?_
  refine lv_iconst (v := 3) hx hb dX7_weighFigures_9 (by decide) ?_
  refine lv_icmp_le (tgt := 19) hx hb dX7_weighFigures_10 (by decide) (fun c1 => ?_) (fun c1 => ?_)
  · have hf := (if_pos c1).symm.trans hf
    refine lv_aload_n hx hb dX7_weighFigures_19 rfl (lv_at hl 0 rfl) ?_
    refine lv_iconst (v := 0) hx hb dX7_weighFigures_20 (by decide) ?_
    refine Tp_4 S hinX7 hK hP hD hS 0 rfl f23 dX7_weighFigures_21 (fun H locs hP hD hS => ?_)
    obtain ⟨σ2, eσ2, hf⟩ := nm_some hf
    replace hP : va_P D vwCl (xT uT cI cB cR cM cJ σ2) H := by rw [eσ2]; exact hP
    replace hD : va_D A (xT uT cI cB cR cM cJ σ2) := by rw [eσ2]; exact hD
    refine lv_aload_n hx hb dX7_weighFigures_24 rfl (lv_at hl 0 rfl) ?_
    refine Tg_3 S hinX7 hK hP 0 rfl f20 dX7_weighFigures_25 ?_
    refine lv_topi (fun x3 ex3 => ?_)
    have hf := nm_at ex3 hf
    refine lv_istore_n (lv' := [(1, .int x3), (0, .ref (uT 0))]) hx hb dX7_weighFigures_28 rfl hl (by decide) rfl (fun ls hl => ?_)
    exact b29 fuelN _ _ _ _ _ hf (lv_sub hl [1, 0] rfl) hP hD hS
  · have hf := (if_neg c1).symm.trans hf
    refine lv_aload_n hx hb dX7_weighFigures_13 rfl (lv_at hl 0 rfl) ?_
    refine lv_iconst (v := 4) hx hb dX7_weighFigures_14 (by decide) ?_
    refine Tp_2 S hinX7 hK hP hD hS 0 rfl f17 dX7_weighFigures_15 (fun H locs hP hD hS => ?_)
    obtain ⟨σ4, eσ4, hf⟩ := nm_some hf
    replace hP : va_P D vwCl (xT uT cI cB cR cM cJ σ4) H := by rw [eσ4]; exact hP
    replace hD : va_D A (xT uT cI cB cR cM cJ σ4) := by rw [eσ4]; exact hD
    exact hre _ _ _ _ _ hf hP hD hS dX7_weighFigures_18
def FT_step_151 (σT : MS) : Option MS :=
  if (σT.1 2) = 2 then (Option.bind (FT_weighFigures σT) fun (σ20 : MS) => some (σ20)) else (some (σT))
def FT_step_95 : Nat → MS → Option MS
  | 0, _ => none
  | n + 1, σT => if (σT.1 1) ≤ (σT.1 5) then (FT_step_151 σT) else (Option.bind (FT_sortOfByte σT (σT.1 5)) fun (r15 : Int32) => if r15 = (σT.1 2) then (nm (setF σT 5 ((σT.1 5) + 1)) fun (σ17 : MS) => (FT_step_95 n) σ17) else (FT_step_151 σT))
def FT_step_76 (σT : MS) (s0 : Int32) : Option MS :=
  nm (setF σT 2 s0) fun (σ9 : MS) => if (σ9.1 2) = 1 then (FT_step_95 fuelN σ9) else (if (σ9.1 2) = 2 then (FT_step_95 fuelN σ9) else (if (σ9.1 2) = 0 then (FT_step_151 σ9) else (nm (setF σ9 5 ((σ9.1 5) + 1)) fun (σ13 : MS) => FT_step_151 σ13)))
def FT_step_44 (σT : MS) : Option MS :=
  nm (setF σT 5 (σT.1 3)) fun (σ6 : MS) => if (σ6.1 1) ≤ (σ6.1 3) then (FT_step_76 σ6 0) else (Option.bind (FT_sortOfByte σ6 (σ6.1 3)) fun (r8 : Int32) => FT_step_76 σ6 r8)
def FT_step_8 : Nat → MS → Option MS
  | 0, _ => none
  | n + 1, σT => if (σT.1 1) ≤ (σT.1 3) then (FT_step_44 σT) else (Option.bind (FT_sortOfByte σT (σT.1 3)) fun (r3 : Int32) => if r3 = 5 then (nm (setF σT 3 ((σT.1 3) + 1)) fun (σ5 : MS) => (FT_step_8 n) σ5) else (FT_step_44 σT))
def FT_step (σT : MS) : Option MS :=
  nm (setF σT 3 (σT.1 5)) fun (σ1 : MS) => FT_step_8 fuelN σ1
set_option maxHeartbeats 4000000 in
set_option maxRecDepth 100000 in
theorem kT_step (l : Launch) (D : va_G) (uT : Nat → Nat) (cI cB cR cM cJ : ClassId) (t : Nat → Nat) (σT : MS) (σT' : MS) (hf : FT_step σT = some (σT')) : KZ l D (ctys cI cB cR cM cJ) t yX7_step wsX7_step 1 22 [.ref (uT 0)] (xT uT cI cB cR cM cJ σT) none (xT uT cI cB cR cM cJ σT') := by
  refine KZ.ofV (own := RX7) (cc := cX7_step) (maxL := 1) (by decide) rfl rfl (Nat.le_of_ble_eq_true rfl) ?_
  intro p e s m args below meth c R Q A ls S hRf hRl hK hA hP hD hS hl hZ hret
  obtain ⟨hx, hb, hml, hown, hts⟩ := id S
  have f26 := hts (.fieldLink RX7 26 "PenniesAway$Tape" "end" "I") (by decide +kernel)
  have hinX7 : ∀ w ∈ wsX70, w ∈ wsX7_step := fun w hw => List.mem_cons_of_mem _ (List.mem_append_right _ hw)
  have f20 := hts (.fieldLink RX7 20 "PenniesAway$Tape" "start" "I") (by decide +kernel)
  have f13 := hts (.fieldLink RX7 13 "PenniesAway$Tape" "length" "I") (by decide +kernel)
  have f17 := hts (.fieldLink RX7 17 "PenniesAway$Tape" "sort" "I") (by decide +kernel)
  have hl : lv_has ls 1 [(0, .ref (uT 0))] := hl
  have hre : ∀ (τT : MS) (pc : Nat) (ls : Array Slot) (H : Heap) (locs : List Loc), (some (τT) : Option MS) = some (σT') → va_P D vwCl (xT uT cI cB cR cM cJ τT) H → va_D A (xT uT cI cB cR cM cJ τT) → va_S A s.heap H locs → decode cX7_step pc = .ok (.return_, 1) → W p l e R s m args below meth c H locs 0 0 Q (F0 m pc ls []) := by intro τT pc ls H locs he; cases he; exact hret pc ls H locs
  have b151 : ∀ (σT : MS) (ls : Array Slot) (H : Heap) (locs : List Loc), FT_step_151 σT = some (σT') → lv_has ls 1 [(0, .ref (uT 0))] → va_P D vwCl (xT uT cI cB cR cM cJ σT) H → va_D A (xT uT cI cB cR cM cJ σT) → va_S A s.heap H locs → W p l e R s m args below meth c H locs 0 0 Q (F0 m 151 ls []) := by
    intro σT ls H locs hf hl hP hD hS
    unfold FT_step_151 at hf
    refine lv_aload_n hx hb dX7_step_151 rfl (lv_at hl 0 rfl) ?_
    refine Tg_2 S hinX7 hK hP 0 rfl f17 dX7_step_152 ?_
    refine lv_iconst (v := 2) hx hb dX7_step_155 (by decide) ?_
    refine lv_icmp_ne (tgt := 163) hx hb dX7_step_156 (by decide) (fun c18 => ?_) (fun c18 => ?_)
    · have hf := (if_neg c18).symm.trans hf
      exact hre _ _ _ _ _ hf hP hD hS dX7_step_163
    · have hf := (if_pos c18).symm.trans hf
      refine lv_aload_n hx hb dX7_step_159 rfl (lv_at hl 0 rfl) ?_
      obtain ⟨σ20, hr19, hf⟩ := bi_some hf
      refine kz_v (ci := 6) (q0 := 0) (n := 0) S hRf hRl hK hA hZ hP hD hS hl [0, 1] [] [] (kT_weighFigures l D uT cI cB cR cM cJ t σT σ20 hr19) rfl rfl rfl gX7_step_X7_weighFigures rfl (by decide +kernel) rfl ⟨by decide, by decide⟩ rfl rfl rfl rfl (Nat.le_of_ble_eq_true rfl) dX7_step_160 (fun H locs hP hD hS => ?_)
      replace hP : va_P D vwCl (xT uT cI cB cR cM cJ σ20) H := hP
      replace hD : va_D A (xT uT cI cB cR cM cJ σ20) := hD
      refine W.eq (g2 := F0 m 163 ls []) rfl ?_
      exact hre _ _ _ _ _ hf hP hD hS dX7_step_163
  have b95 : ∀ (n : Nat), ∀ (σT : MS) (ls : Array Slot) (H : Heap) (locs : List Loc), FT_step_95 n σT = some (σT') → lv_has ls 1 [(0, .ref (uT 0))] → va_P D vwCl (xT uT cI cB cR cM cJ σT) H → va_D A (xT uT cI cB cR cM cJ σT) → va_S A s.heap H locs → W p l e R s m args below meth c H locs 0 0 Q (F0 m 95 ls []) := by
    intro n
    induction n with
    | zero => intro σT ls H locs hf; exact absurd hf (by simp [FT_step_95])
    | succ n ih =>
      intro σT ls H locs hf hl hP hD hS
      rw [FT_step_95] at hf
      refine lv_aload_n hx hb dX7_step_95 rfl (lv_at hl 0 rfl) ?_
      refine Tg_5 S hinX7 hK hP 0 rfl f26 dX7_step_96 ?_
      refine lv_aload_n hx hb dX7_step_99 rfl (lv_at hl 0 rfl) ?_
      refine Tg_1 S hinX7 hK hP 0 rfl f13 dX7_step_100 ?_
      refine lv_icmp_ge (tgt := 151) hx hb dX7_step_103 (by decide) (fun c14 => ?_) (fun c14 => ?_)
      · have hf := (if_pos c14).symm.trans hf
        exact b151 _ _ _ _ hf (lv_sub hl [0] rfl) hP hD hS
      · have hf := (if_neg c14).symm.trans hf
        refine lv_aload_n hx hb dX7_step_106 rfl (lv_at hl 0 rfl) ?_
        refine lv_aload_n hx hb dX7_step_107 rfl (lv_at hl 0 rfl) ?_
        refine Tg_5 S hinX7 hK hP 0 rfl f26 dX7_step_108 ?_
        obtain ⟨r15, hr15, hf⟩ := bi_some hf
        refine kz_v (ci := 6) (q0 := 0) (n := 1) S hRf hRl hK hA hZ hP hD hS hl [0, 1] [.int (σT.1 5)] [] (kT_sortOfByte l D uT cI cB cR cM cJ t σT (σT.1 5) r15 hr15) rfl rfl rfl gX7_step_X7_sortOfByte rfl (by decide +kernel) rfl ⟨by decide, by decide⟩ rfl rfl rfl rfl (Nat.le_of_ble_eq_true rfl) dX7_step_111 (fun H locs hP hD hS => ?_)
        replace hP : va_P D vwCl (xT uT cI cB cR cM cJ σT) H := hP
        replace hD : va_D A (xT uT cI cB cR cM cJ σT) := hD
        refine W.eq (g2 := F0 m 114 ls [.int r15]) rfl ?_
        refine lv_aload_n hx hb dX7_step_114 rfl (lv_at hl 0 rfl) ?_
        refine Tg_2 S hinX7 hK hP 0 rfl f17 dX7_step_115 ?_
        refine lv_icmp_ne (tgt := 151) hx hb dX7_step_118 (by decide) (fun c16 => ?_) (fun c16 => ?_)
        · have hf := (if_neg c16).symm.trans hf
          exact b151 _ _ _ _ hf (lv_sub hl [0] rfl) hP hD hS
        · have hf := (if_pos c16).symm.trans hf
          refine lv_aload_n hx hb dX7_step_121 rfl (lv_at hl 0 rfl) ?_
          refine lv_dup hx hb dX7_step_122 rfl ?_
          refine Tg_5 S hinX7 hK hP 0 rfl f26 dX7_step_123 ?_
          refine lv_iconst (v := 1) hx hb dX7_step_126 (by decide) ?_
          refine lv_iadd hx hb dX7_step_127 ?_
          refine Tp_5 S hinX7 hK hP hD hS 0 rfl f26 dX7_step_128 (fun H locs hP hD hS => ?_)
          obtain ⟨σ17, eσ17, hf⟩ := nm_some hf
          replace hP : va_P D vwCl (xT uT cI cB cR cM cJ σ17) H := by rw [eσ17]; exact hP
          replace hD : va_D A (xT uT cI cB cR cM cJ σ17) := by rw [eσ17]; exact hD
          refine lv_goto (tgt := 95) hx hb dX7_step_131 (by decide) ?_
          exact ih _ _ _ _ hf (lv_sub hl [0] rfl) hP hD hS
  have b76 : ∀ (σT : MS) (s0 : Int32) (ls : Array Slot) (H : Heap) (locs : List Loc), FT_step_76 σT s0 = some (σT') → lv_has ls 1 [(0, .ref (uT 0))] → va_P D vwCl (xT uT cI cB cR cM cJ σT) H → va_D A (xT uT cI cB cR cM cJ σT) → va_S A s.heap H locs → W p l e R s m args below meth c H locs 0 0 Q (F0 m 76 ls [.int s0, .ref (uT 0)]) := by
    intro σT s0 ls H locs hf hl hP hD hS
    unfold FT_step_76 at hf
    refine Tp_2 S hinX7 hK hP hD hS 0 rfl f17 dX7_step_76 (fun H locs hP hD hS => ?_)
    obtain ⟨σ9, eσ9, hf⟩ := nm_some hf
    replace hP : va_P D vwCl (xT uT cI cB cR cM cJ σ9) H := by rw [eσ9]; exact hP
    replace hD : va_D A (xT uT cI cB cR cM cJ σ9) := by rw [eσ9]; exact hD
    refine lv_aload_n hx hb dX7_step_79 rfl (lv_at hl 0 rfl) ?_
    refine Tg_2 S hinX7 hK hP 0 rfl f17 dX7_step_80 ?_
    refine lv_iconst (v := 1) hx hb dX7_step_83 (by decide) ?_
    refine lv_icmp_eq (tgt := 95) hx hb dX7_step_84 (by decide) (fun c10 => ?_) (fun c10 => ?_)
    · have hf := (if_pos c10).symm.trans hf
      exact b95 fuelN _ _ _ _ hf (lv_sub hl [0] rfl) hP hD hS
    · have hf := (if_neg c10).symm.trans hf
      refine lv_aload_n hx hb dX7_step_87 rfl (lv_at hl 0 rfl) ?_
      refine Tg_2 S hinX7 hK hP 0 rfl f17 dX7_step_88 ?_
      refine lv_iconst (v := 2) hx hb dX7_step_91 (by decide) ?_
      refine lv_icmp_ne (tgt := 134) hx hb dX7_step_92 (by decide) (fun c11 => ?_) (fun c11 => ?_)
      · have hf := (if_neg c11).symm.trans hf
        refine lv_aload_n hx hb dX7_step_134 rfl (lv_at hl 0 rfl) ?_
        refine Tg_2 S hinX7 hK hP 0 rfl f17 dX7_step_135 ?_
        refine lv_if_eq (tgt := 151) hx hb dX7_step_138 (by decide) (fun c12 => ?_) (fun c12 => ?_)
        · have hf := (if_pos c12).symm.trans hf
          exact b151 _ _ _ _ hf (lv_sub hl [0] rfl) hP hD hS
        · have hf := (if_neg c12).symm.trans hf
          refine lv_aload_n hx hb dX7_step_141 rfl (lv_at hl 0 rfl) ?_
          refine lv_dup hx hb dX7_step_142 rfl ?_
          refine Tg_5 S hinX7 hK hP 0 rfl f26 dX7_step_143 ?_
          refine lv_iconst (v := 1) hx hb dX7_step_146 (by decide) ?_
          refine lv_iadd hx hb dX7_step_147 ?_
          refine Tp_5 S hinX7 hK hP hD hS 0 rfl f26 dX7_step_148 (fun H locs hP hD hS => ?_)
          obtain ⟨σ13, eσ13, hf⟩ := nm_some hf
          replace hP : va_P D vwCl (xT uT cI cB cR cM cJ σ13) H := by rw [eσ13]; exact hP
          replace hD : va_D A (xT uT cI cB cR cM cJ σ13) := by rw [eσ13]; exact hD
          exact b151 _ _ _ _ hf (lv_sub hl [0] rfl) hP hD hS
      · have hf := (if_pos c11).symm.trans hf
        exact b95 fuelN _ _ _ _ hf (lv_sub hl [0] rfl) hP hD hS
  have b44 : ∀ (σT : MS) (ls : Array Slot) (H : Heap) (locs : List Loc), FT_step_44 σT = some (σT') → lv_has ls 1 [(0, .ref (uT 0))] → va_P D vwCl (xT uT cI cB cR cM cJ σT) H → va_D A (xT uT cI cB cR cM cJ σT) → va_S A s.heap H locs → W p l e R s m args below meth c H locs 0 0 Q (F0 m 44 ls []) := by
    intro σT ls H locs hf hl hP hD hS
    unfold FT_step_44 at hf
    refine lv_aload_n hx hb dX7_step_44 rfl (lv_at hl 0 rfl) ?_
    refine lv_aload_n hx hb dX7_step_45 rfl (lv_at hl 0 rfl) ?_
    refine Tg_3 S hinX7 hK hP 0 rfl f20 dX7_step_46 ?_
    refine Tp_5 S hinX7 hK hP hD hS 0 rfl f26 dX7_step_49 (fun H locs hP hD hS => ?_)
    obtain ⟨σ6, eσ6, hf⟩ := nm_some hf
    replace hP : va_P D vwCl (xT uT cI cB cR cM cJ σ6) H := by rw [eσ6]; exact hP
    replace hD : va_D A (xT uT cI cB cR cM cJ σ6) := by rw [eσ6]; exact hD
    refine lv_aload_n hx hb dX7_step_52 rfl (lv_at hl 0 rfl) ?_
    refine lv_aload_n hx hb dX7_step_53 rfl (lv_at hl 0 rfl) ?_
    refine Tg_3 S hinX7 hK hP 0 rfl f20 dX7_step_54 ?_
    refine lv_aload_n hx hb dX7_step_57 rfl (lv_at hl 0 rfl) ?_
    refine Tg_1 S hinX7 hK hP 0 rfl f13 dX7_step_58 ?_
    refine lv_icmp_ge (tgt := 75) hx hb dX7_step_61 (by decide) (fun c7 => ?_) (fun c7 => ?_)
    · have hf := (if_pos c7).symm.trans hf
      refine lv_iconst (v := 0) hx hb dX7_step_75 (by decide) ?_
      exact b76 _ _ _ _ _ hf (lv_sub hl [0] rfl) hP hD hS
    · have hf := (if_neg c7).symm.trans hf
      refine lv_aload_n hx hb dX7_step_64 rfl (lv_at hl 0 rfl) ?_
      refine lv_aload_n hx hb dX7_step_65 rfl (lv_at hl 0 rfl) ?_
      refine Tg_3 S hinX7 hK hP 0 rfl f20 dX7_step_66 ?_
      obtain ⟨r8, hr8, hf⟩ := bi_some hf
      refine kz_v (ci := 6) (q0 := 0) (n := 1) S hRf hRl hK hA hZ hP hD hS hl [0, 1] [.int (σ6.1 3)] [.ref (uT 0)] (kT_sortOfByte l D uT cI cB cR cM cJ t σ6 (σ6.1 3) r8 hr8) rfl rfl rfl gX7_step_X7_sortOfByte rfl (by decide +kernel) rfl ⟨by decide, by decide⟩ rfl rfl rfl rfl (Nat.le_of_ble_eq_true rfl) dX7_step_69 (fun H locs hP hD hS => ?_)
      replace hP : va_P D vwCl (xT uT cI cB cR cM cJ σ6) H := hP
      replace hD : va_D A (xT uT cI cB cR cM cJ σ6) := hD
      refine W.eq (g2 := F0 m 72 ls [.int r8, .ref (uT 0)]) rfl ?_
      refine lv_goto (tgt := 76) hx hb dX7_step_72 (by decide) ?_
      exact b76 _ _ _ _ _ hf (lv_sub hl [0] rfl) hP hD hS
  have b8 : ∀ (n : Nat), ∀ (σT : MS) (ls : Array Slot) (H : Heap) (locs : List Loc), FT_step_8 n σT = some (σT') → lv_has ls 1 [(0, .ref (uT 0))] → va_P D vwCl (xT uT cI cB cR cM cJ σT) H → va_D A (xT uT cI cB cR cM cJ σT) → va_S A s.heap H locs → W p l e R s m args below meth c H locs 0 0 Q (F0 m 8 ls []) := by
    intro n
    induction n with
    | zero => intro σT ls H locs hf; exact absurd hf (by simp [FT_step_8])
    | succ n ih =>
      intro σT ls H locs hf hl hP hD hS
      rw [FT_step_8] at hf
      refine lv_aload_n hx hb dX7_step_8 rfl (lv_at hl 0 rfl) ?_
      refine Tg_3 S hinX7 hK hP 0 rfl f20 dX7_step_9 ?_
      refine lv_aload_n hx hb dX7_step_12 rfl (lv_at hl 0 rfl) ?_
      refine Tg_1 S hinX7 hK hP 0 rfl f13 dX7_step_13 ?_
      refine lv_icmp_ge (tgt := 44) hx hb dX7_step_16 (by decide) (fun c2 => ?_) (fun c2 => ?_)
      · have hf := (if_pos c2).symm.trans hf
        exact b44 _ _ _ _ hf (lv_sub hl [0] rfl) hP hD hS
      · have hf := (if_neg c2).symm.trans hf
        refine lv_aload_n hx hb dX7_step_19 rfl (lv_at hl 0 rfl) ?_
        refine lv_aload_n hx hb dX7_step_20 rfl (lv_at hl 0 rfl) ?_
        refine Tg_3 S hinX7 hK hP 0 rfl f20 dX7_step_21 ?_
        obtain ⟨r3, hr3, hf⟩ := bi_some hf
        refine kz_v (ci := 6) (q0 := 0) (n := 1) S hRf hRl hK hA hZ hP hD hS hl [0, 1] [.int (σT.1 3)] [] (kT_sortOfByte l D uT cI cB cR cM cJ t σT (σT.1 3) r3 hr3) rfl rfl rfl gX7_step_X7_sortOfByte rfl (by decide +kernel) rfl ⟨by decide, by decide⟩ rfl rfl rfl rfl (Nat.le_of_ble_eq_true rfl) dX7_step_24 (fun H locs hP hD hS => ?_)
        replace hP : va_P D vwCl (xT uT cI cB cR cM cJ σT) H := hP
        replace hD : va_D A (xT uT cI cB cR cM cJ σT) := hD
        refine W.eq (g2 := F0 m 27 ls [.int r3]) rfl ?_
        refine lv_iconst (v := 5) hx hb dX7_step_27 (by decide) ?_
        refine lv_icmp_ne (tgt := 44) hx hb dX7_step_28 (by decide) (fun c4 => ?_) (fun c4 => ?_)
        · have hf := (if_neg c4).symm.trans hf
          exact b44 _ _ _ _ hf (lv_sub hl [0] rfl) hP hD hS
        · have hf := (if_pos c4).symm.trans hf
          refine lv_aload_n hx hb dX7_step_31 rfl (lv_at hl 0 rfl) ?_
          refine lv_dup hx hb dX7_step_32 rfl ?_
          refine Tg_3 S hinX7 hK hP 0 rfl f20 dX7_step_33 ?_
          refine lv_iconst (v := 1) hx hb dX7_step_36 (by decide) ?_
          refine lv_iadd hx hb dX7_step_37 ?_
          refine Tp_3 S hinX7 hK hP hD hS 0 rfl f20 dX7_step_38 (fun H locs hP hD hS => ?_)
          obtain ⟨σ5, eσ5, hf⟩ := nm_some hf
          replace hP : va_P D vwCl (xT uT cI cB cR cM cJ σ5) H := by rw [eσ5]; exact hP
          replace hD : va_D A (xT uT cI cB cR cM cJ σ5) := by rw [eσ5]; exact hD
          refine lv_goto (tgt := 8) hx hb dX7_step_41 (by decide) ?_
          exact ih _ _ _ _ hf (lv_sub hl [0] rfl) hP hD hS
  unfold FT_step at hf
  refine lv_aload_n hx hb dX7_step_0 rfl (lv_at hl 0 rfl) ?_
  refine lv_aload_n hx hb dX7_step_1 rfl (lv_at hl 0 rfl) ?_
  refine Tg_5 S hinX7 hK hP 0 rfl f26 dX7_step_2 ?_
  refine Tp_3 S hinX7 hK hP hD hS 0 rfl f20 dX7_step_5 (fun H locs hP hD hS => ?_)
  obtain ⟨σ1, eσ1, hf⟩ := nm_some hf
  replace hP : va_P D vwCl (xT uT cI cB cR cM cJ σ1) H := by rw [eσ1]; exact hP
  replace hD : va_D A (xT uT cI cB cR cM cJ σ1) := by rw [eσ1]; exact hD
  exact b8 fuelN _ _ _ _ hf (lv_sub hl [0] rfl) hP hD hS
def FT_rewind (σT : MS) : Option MS :=
  nm (setF σT 5 0) fun (σ1 : MS) => Option.bind (FT_step σ1) fun (σ3 : MS) => some (σ3)
set_option maxHeartbeats 4000000 in
set_option maxRecDepth 100000 in
theorem kT_rewind (l : Launch) (D : va_G) (uT : Nat → Nat) (cI cB cR cM cJ : ClassId) (t : Nat → Nat) (σT : MS) (σT' : MS) (hf : FT_rewind σT = some (σT')) : KZ l D (ctys cI cB cR cM cJ) t yX7_rewind wsX7_rewind 2 42 [.ref (uT 0)] (xT uT cI cB cR cM cJ σT) none (xT uT cI cB cR cM cJ σT') := by
  refine KZ.ofV (own := RX7) (cc := cX7_rewind) (maxL := 1) (by decide) rfl rfl (Nat.le_of_ble_eq_true rfl) ?_
  intro p e s m args below meth c R Q A ls S hRf hRl hK hA hP hD hS hl hZ hret
  obtain ⟨hx, hb, hml, hown, hts⟩ := id S
  have f26 := hts (.fieldLink RX7 26 "PenniesAway$Tape" "end" "I") (by decide +kernel)
  have hinX7 : ∀ w ∈ wsX70, w ∈ wsX7_rewind := fun w hw => List.mem_cons_of_mem _ (List.mem_append_right _ hw)
  have hl : lv_has ls 1 [(0, .ref (uT 0))] := hl
  have hre : ∀ (τT : MS) (pc : Nat) (ls : Array Slot) (H : Heap) (locs : List Loc), (some (τT) : Option MS) = some (σT') → va_P D vwCl (xT uT cI cB cR cM cJ τT) H → va_D A (xT uT cI cB cR cM cJ τT) → va_S A s.heap H locs → decode cX7_rewind pc = .ok (.return_, 1) → W p l e R s m args below meth c H locs 0 0 Q (F0 m pc ls []) := by intro τT pc ls H locs he; cases he; exact hret pc ls H locs
  unfold FT_rewind at hf
  refine lv_aload_n hx hb dX7_rewind_0 rfl (lv_at hl 0 rfl) ?_
  refine lv_iconst (v := 0) hx hb dX7_rewind_1 (by decide) ?_
  refine Tp_5 S hinX7 hK hP hD hS 0 rfl f26 dX7_rewind_2 (fun H locs hP hD hS => ?_)
  obtain ⟨σ1, eσ1, hf⟩ := nm_some hf
  replace hP : va_P D vwCl (xT uT cI cB cR cM cJ σ1) H := by rw [eσ1]; exact hP
  replace hD : va_D A (xT uT cI cB cR cM cJ σ1) := by rw [eσ1]; exact hD
  refine lv_aload_n hx hb dX7_rewind_5 rfl (lv_at hl 0 rfl) ?_
  obtain ⟨σ3, hr2, hf⟩ := bi_some hf
  refine kz_v (ci := 6) (q0 := 0) (n := 0) S hRf hRl hK hA hZ hP hD hS hl [0, 1] [] [] (kT_step l D uT cI cB cR cM cJ t σ1 σ3 hr2) rfl rfl rfl gX7_rewind_X7_step rfl (by decide +kernel) rfl ⟨by decide, by decide⟩ rfl rfl rfl rfl (Nat.le_of_ble_eq_true rfl) dX7_rewind_6 (fun H locs hP hD hS => ?_)
  replace hP : va_P D vwCl (xT uT cI cB cR cM cJ σ3) H := hP
  replace hD : va_D A (xT uT cI cB cR cM cJ σ3) := hD
  refine W.eq (g2 := F0 m 9 ls []) rfl ?_
  exact hre _ _ _ _ _ hf hP hD hS dX7_rewind_9
def FL_clear_11 : Nat → MS → Int32 → Option MS
  | 0, _, _ => none
  | n + 1, σL, l1 => if 8 ≤ l1 then (nm (setR σL 3 (kfill 61 0 (σL.2 3))) fun (σ3 : MS) => nm (setF σ3 4 0) fun (σ4 : MS) => nm (setF σ4 5 0) fun (σ5 : MS) => nm (setF σ5 6 0) fun (σ6 : MS) => nm (setF σ6 7 0) fun (σ7 : MS) => some (σ7)) else (gd (¬ ((((l1 * 8) + l1) : Int32) < 0 ∨ 64 ≤ Int32.toNatClampNeg ((l1 * 8) + l1))) (nm (setA σL 0 (Int32.toNatClampNeg ((l1 * 8) + l1)) 0) fun (σ9 : MS) => nm (l1 + 1) fun (x10 : Int32) => (FL_clear_11 n) σ9 x10))
def FL_clear (σL : MS) : Option MS :=
  nm (setR σL 0 (kfill 64 1000000 (σL.2 0))) fun (σ1 : MS) => FL_clear_11 fuelN σ1 0
set_option maxHeartbeats 4000000 in
set_option maxRecDepth 100000 in
theorem kL_clear (l : Launch) (D : va_G) (uL : Nat → Nat) (cI cB cR cM cJ : ClassId) (t : Nat → Nat) (σL : MS) (σL' : MS) (hf : FL_clear σL = some (σL')) : KZ l D (ctys cI cB cR cM cJ) t yX5_clear wsX5_clear 1 23 [.ref (uL 0)] (xL uL cI cB cR cM cJ σL) none (xL uL cI cB cR cM cJ σL') := by
  refine KZ.ofV (own := RX5) (cc := cX5_clear) (maxL := 2) (by decide) rfl rfl (Nat.le_of_ble_eq_true rfl) ?_
  intro p e s m args below meth c R Q A ls S hRf hRl hK hA hP hD hS hl hZ hret
  obtain ⟨hx, hb, hml, hown, hts⟩ := id S
  have f11 := hts (.fieldLink RX5 11 "PenniesAway$Realm" "ways" "[I") (by decide +kernel)
  have hinX5 : ∀ w ∈ wsX50, w ∈ wsX5_clear := fun w hw => List.mem_cons_of_mem _ (List.mem_append_right _ hw)
  have c38 := hts (.constant RX5 38 (1000000)) (by decide +kernel)
  have f21 := hts (.fieldLink RX5 21 "PenniesAway$Realm" "changing" "[I") (by decide +kernel)
  have f24 := hts (.fieldLink RX5 24 "PenniesAway$Realm" "told" "Z") (by decide +kernel)
  have f28 := hts (.fieldLink RX5 28 "PenniesAway$Realm" "leave" "I") (by decide +kernel)
  have f32 := hts (.fieldLink RX5 32 "PenniesAway$Realm" "holders" "I") (by decide +kernel)
  have f35 := hts (.fieldLink RX5 35 "PenniesAway$Realm" "coins" "I") (by decide +kernel)
  have hl : lv_has ls 2 [(0, .ref (uL 0))] := hl
  have hre : ∀ (τL : MS) (pc : Nat) (ls : Array Slot) (H : Heap) (locs : List Loc), (some (τL) : Option MS) = some (σL') → va_P D vwCl (xL uL cI cB cR cM cJ τL) H → va_D A (xL uL cI cB cR cM cJ τL) → va_S A s.heap H locs → decode cX5_clear pc = .ok (.return_, 1) → W p l e R s m args below meth c H locs 0 0 Q (F0 m pc ls []) := by intro τL pc ls H locs he; cases he; exact hret pc ls H locs
  have b11 : ∀ (n : Nat), ∀ (σL : MS) (l1 : Int32) (ls : Array Slot) (H : Heap) (locs : List Loc), FL_clear_11 n σL l1 = some (σL') → lv_has ls 2 [(0, .ref (uL 0)), (1, .int l1)] → va_P D vwCl (xL uL cI cB cR cM cJ σL) H → va_D A (xL uL cI cB cR cM cJ σL) → va_S A s.heap H locs → W p l e R s m args below meth c H locs 0 0 Q (F0 m 11 ls []) := by
    intro n
    induction n with
    | zero => intro σL l1 ls H locs hf; exact absurd hf (by simp [FL_clear_11])
    | succ n ih =>
      intro σL l1 ls H locs hf hl hP hD hS
      rw [FL_clear_11] at hf
      refine lv_iload_n hx hb dX5_clear_11 rfl (lv_at hl 1 rfl) ?_
      refine lv_bipush (v := 8) hx hb dX5_clear_12 (by decide) ?_
      refine lv_icmp_ge (tgt := 35) hx hb dX5_clear_14 (by decide) (fun c2 => ?_) (fun c2 => ?_)
      · have hf := (if_pos c2).symm.trans hf
        refine lv_aload_n hx hb dX5_clear_35 rfl (lv_at hl 0 rfl) ?_
        refine Lg_3 S hinX5 hK hP 0 rfl f21 dX5_clear_36 ?_
        refine lv_iconst (v := 0) hx hb dX5_clear_39 (by decide) ?_
        refine kz_s (n := 2) S hRf hRl hK hA hZ hP hD hS hl [4] [.ref (uL 4), .int 0] [] (kJ_fill l D t cI cB cR cM cJ (uL 4) 61 0 (σL.2 3) (by decide)) rfl rfl rfl gX5_clear_J7_fill_53178 rfl (by decide +kernel) rfl ⟨by decide, by decide⟩ rfl (Nat.le_of_ble_eq_true rfl) dX5_clear_40 (fun H locs hP hD hS => ?_)
        refine W.eq (g2 := F0 m 43 ls []) rfl ?_
        obtain ⟨σ3, eσ3, hf⟩ := nm_some hf
        replace hP : va_P D vwCl (xL uL cI cB cR cM cJ σ3) H := by rw [eσ3]; exact hP
        replace hD : va_D A (xL uL cI cB cR cM cJ σ3) := by rw [eσ3]; exact hD
        refine lv_aload_n hx hb dX5_clear_43 rfl (lv_at hl 0 rfl) ?_
        refine lv_iconst (v := 0) hx hb dX5_clear_44 (by decide) ?_
        refine Lp_4 S hinX5 hK hP hD hS 0 rfl f24 rfl rfl dX5_clear_45 (fun H locs hP hD hS => ?_)
        obtain ⟨σ4, eσ4, hf⟩ := nm_some hf
        replace hP : va_P D vwCl (xL uL cI cB cR cM cJ σ4) H := by rw [eσ4]; exact hP
        replace hD : va_D A (xL uL cI cB cR cM cJ σ4) := by rw [eσ4]; exact hD
        refine lv_aload_n hx hb dX5_clear_48 rfl (lv_at hl 0 rfl) ?_
        refine lv_iconst (v := 0) hx hb dX5_clear_49 (by decide) ?_
        refine Lp_5 S hinX5 hK hP hD hS 0 rfl f28 dX5_clear_50 (fun H locs hP hD hS => ?_)
        obtain ⟨σ5, eσ5, hf⟩ := nm_some hf
        replace hP : va_P D vwCl (xL uL cI cB cR cM cJ σ5) H := by rw [eσ5]; exact hP
        replace hD : va_D A (xL uL cI cB cR cM cJ σ5) := by rw [eσ5]; exact hD
        refine lv_aload_n hx hb dX5_clear_53 rfl (lv_at hl 0 rfl) ?_
        refine lv_iconst (v := 0) hx hb dX5_clear_54 (by decide) ?_
        refine Lp_6 S hinX5 hK hP hD hS 0 rfl f32 dX5_clear_55 (fun H locs hP hD hS => ?_)
        obtain ⟨σ6, eσ6, hf⟩ := nm_some hf
        replace hP : va_P D vwCl (xL uL cI cB cR cM cJ σ6) H := by rw [eσ6]; exact hP
        replace hD : va_D A (xL uL cI cB cR cM cJ σ6) := by rw [eσ6]; exact hD
        refine lv_aload_n hx hb dX5_clear_58 rfl (lv_at hl 0 rfl) ?_
        refine lv_iconst (v := 0) hx hb dX5_clear_59 (by decide) ?_
        refine Lp_7 S hinX5 hK hP hD hS 0 rfl f35 dX5_clear_60 (fun H locs hP hD hS => ?_)
        obtain ⟨σ7, eσ7, hf⟩ := nm_some hf
        replace hP : va_P D vwCl (xL uL cI cB cR cM cJ σ7) H := by rw [eσ7]; exact hP
        replace hD : va_D A (xL uL cI cB cR cM cJ σ7) := by rw [eσ7]; exact hD
        exact hre _ _ _ _ _ hf hP hD hS dX5_clear_63
      · have hf := (if_neg c2).symm.trans hf
        refine lv_aload_n hx hb dX5_clear_17 rfl (lv_at hl 0 rfl) ?_
        refine Lg_0 S hinX5 hK hP 0 rfl f11 dX5_clear_18 ?_
        refine lv_iload_n hx hb dX5_clear_21 rfl (lv_at hl 1 rfl) ?_
        refine lv_bipush (v := 8) hx hb dX5_clear_22 (by decide) ?_
        refine lv_imul hx hb dX5_clear_24 ?_
        refine lv_iload_n hx hb dX5_clear_25 rfl (lv_at hl 1 rfl) ?_
        refine lv_iadd hx hb dX5_clear_26 ?_
        refine lv_iconst (v := 0) hx hb dX5_clear_27 (by decide) ?_
        obtain ⟨g8, hf⟩ := gd_some hf
        refine va_iast (f := σL.2 0) (n := 64) (cA := cI) hx hb hK hP hD hS 1 0 rfl rfl g8 dX5_clear_28 (fun H locs hP hD hS => ?_)
        obtain ⟨σ9, eσ9, hf⟩ := nm_some hf
        replace hP : va_P D vwCl (xL uL cI cB cR cM cJ σ9) H := by rw [eσ9]; exact hP
        replace hD : va_D A (xL uL cI cB cR cM cJ σ9) := by rw [eσ9]; exact hD
        obtain ⟨x10, ex10, hf⟩ := nm_some hf
        refine lv_iinc (v := x10) (lv' := [(1, .int x10), (0, .ref (uL 0))]) hx hb dX5_clear_29 hl (k := 1) rfl (by rw [ex10]; rfl) (by decide) rfl (fun ls hl => ?_)
        refine lv_goto (tgt := 11) hx hb dX5_clear_32 (by decide) ?_
        exact ih _ _ _ _ _ hf (lv_sub hl [1, 0] rfl) hP hD hS
  unfold FL_clear at hf
  refine lv_aload_n hx hb dX5_clear_0 rfl (lv_at hl 0 rfl) ?_
  refine Lg_0 S hinX5 hK hP 0 rfl f11 dX5_clear_1 ?_
  refine lv_ldc (v := 1000000) hx hb hown c38 dX5_clear_4 ?_
  refine kz_s (n := 2) S hRf hRl hK hA hZ hP hD hS hl [1] [.ref (uL 1), .int 1000000] [] (kJ_fill l D t cI cB cR cM cJ (uL 1) 64 1000000 (σL.2 0) (by decide)) rfl rfl rfl gX5_clear_J7_fill_53178 rfl (by decide +kernel) rfl ⟨by decide, by decide⟩ rfl (Nat.le_of_ble_eq_true rfl) dX5_clear_6 (fun H locs hP hD hS => ?_)
  refine W.eq (g2 := F0 m 9 ls []) rfl ?_
  obtain ⟨σ1, eσ1, hf⟩ := nm_some hf
  replace hP : va_P D vwCl (xL uL cI cB cR cM cJ σ1) H := by rw [eσ1]; exact hP
  replace hD : va_D A (xL uL cI cB cR cM cJ σ1) := by rw [eσ1]; exact hD
  refine lv_iconst (v := 0) hx hb dX5_clear_9 (by decide) ?_
  refine lv_istore_n (lv' := [(1, .int 0), (0, .ref (uL 0))]) hx hb dX5_clear_10 rfl hl (by decide) rfl (fun ls hl => ?_)
  exact b11 fuelN _ _ _ _ _ hf (lv_sub hl [1, 0] rfl) hP hD hS
def FL_addRoad (σL : MS) (a1 : Int32) (a2 : Int32) (a3 : Int32) : Option MS :=
  gd (¬ ((((a1 * 8) + a2) : Int32) < 0 ∨ 64 ≤ Int32.toNatClampNeg ((a1 * 8) + a2))) (nm (if a3 < (σL.2 0 (Int32.toNatClampNeg ((a1 * 8) + a2))) then a3 else (σL.2 0 (Int32.toNatClampNeg ((a1 * 8) + a2)))) fun (x2 : Int32) => gd (¬ ((((a1 * 8) + a2) : Int32) < 0 ∨ 64 ≤ Int32.toNatClampNeg ((a1 * 8) + a2))) (nm (setA σL 0 (Int32.toNatClampNeg ((a1 * 8) + a2)) x2) fun (σ4 : MS) => gd (¬ ((((a2 * 8) + a1) : Int32) < 0 ∨ 64 ≤ Int32.toNatClampNeg ((a2 * 8) + a1))) (nm (setA σ4 0 (Int32.toNatClampNeg ((a2 * 8) + a1)) x2) fun (σ6 : MS) => some (σ6))))
set_option maxHeartbeats 4000000 in
set_option maxRecDepth 100000 in
theorem kL_addRoad (l : Launch) (D : va_G) (uL : Nat → Nat) (cI cB cR cM cJ : ClassId) (t : Nat → Nat) (σL : MS) (a1 : Int32) (a2 : Int32) (a3 : Int32) (σL' : MS) (hf : FL_addRoad σL a1 a2 a3 = some (σL')) : KZ l D (ctys cI cB cR cM cJ) t yX5_addRoad wsX5_addRoad 1 24 [.ref (uL 0), .int a1, .int a2, .int a3] (xL uL cI cB cR cM cJ σL) none (xL uL cI cB cR cM cJ σL') := by
  refine KZ.ofV (own := RX5) (cc := cX5_addRoad) (maxL := 5) (by decide) rfl rfl (Nat.le_of_ble_eq_true rfl) ?_
  intro p e s m args below meth c R Q A ls S hRf hRl hK hA hP hD hS hl hZ hret
  obtain ⟨hx, hb, hml, hown, hts⟩ := id S
  have f11 := hts (.fieldLink RX5 11 "PenniesAway$Realm" "ways" "[I") (by decide +kernel)
  have hinX5 : ∀ w ∈ wsX50, w ∈ wsX5_addRoad := fun w hw => List.mem_cons_of_mem _ (List.mem_append_right _ hw)
  have ml51 := hts (.methodLink RX5 51 Lib.Math.min.name) (by decide +kernel)
  have msmin := hts (.static Lib.Math.min.name) (by decide +kernel)
  have mini := hts (.initialized "java/lang/Math") (by decide +kernel)
  have mcmin := hts (.code Lib.Math.min.name Lib.Math.min.code 2 (some .int)) (by decide +kernel)
  have hl : lv_has ls 5 [(0, .ref (uL 0)), (1, .int a1), (2, .int a2), (3, .int a3)] := hl
  have hre : ∀ (τL : MS) (pc : Nat) (ls : Array Slot) (H : Heap) (locs : List Loc), (some (τL) : Option MS) = some (σL') → va_P D vwCl (xL uL cI cB cR cM cJ τL) H → va_D A (xL uL cI cB cR cM cJ τL) → va_S A s.heap H locs → decode cX5_addRoad pc = .ok (.return_, 1) → W p l e R s m args below meth c H locs 0 0 Q (F0 m pc ls []) := by intro τL pc ls H locs he; cases he; exact hret pc ls H locs
  unfold FL_addRoad at hf
  refine lv_aload_n hx hb dX5_addRoad_0 rfl (lv_at hl 0 rfl) ?_
  refine Lg_0 S hinX5 hK hP 0 rfl f11 dX5_addRoad_1 ?_
  refine lv_iload_n hx hb dX5_addRoad_4 rfl (lv_at hl 1 rfl) ?_
  refine lv_bipush (v := 8) hx hb dX5_addRoad_5 (by decide) ?_
  refine lv_imul hx hb dX5_addRoad_7 ?_
  refine lv_iload_n hx hb dX5_addRoad_8 rfl (lv_at hl 2 rfl) ?_
  refine lv_iadd hx hb dX5_addRoad_9 ?_
  obtain ⟨g1, hf⟩ := gd_some hf
  refine va_iald (f := σL.2 0) (n := 64) (cA := cI) hx hb hK hP 1 0 rfl rfl g1 dX5_addRoad_10 ?_
  refine lv_iload_n hx hb dX5_addRoad_11 rfl (lv_at hl 3 rfl) ?_
  refine va_mmin hx hb (hml.trans hl.1.symm) hown ml51 msmin mini mcmin (by rw [hRf]; decide) (by rw [hRl]; exact Nat.le_of_ble_eq_true rfl) (Nat.zero_le _) (Nat.zero_le _) dX5_addRoad_12 ?_
  refine lv_topi (fun x2 ex2 => ?_)
  have hf := nm_at ex2 hf
  refine lv_istore (lv' := [(4, .int x2), (0, .ref (uL 0)), (1, .int a1), (2, .int a2), (3, .int a3)]) hx hb dX5_addRoad_15 hl (by decide) rfl (fun ls hl => ?_)
  refine lv_aload_n hx hb dX5_addRoad_17 rfl (lv_at hl 1 rfl) ?_
  refine Lg_0 S hinX5 hK hP 0 rfl f11 dX5_addRoad_18 ?_
  refine lv_iload_n hx hb dX5_addRoad_21 rfl (lv_at hl 2 rfl) ?_
  refine lv_bipush (v := 8) hx hb dX5_addRoad_22 (by decide) ?_
  refine lv_imul hx hb dX5_addRoad_24 ?_
  refine lv_iload_n hx hb dX5_addRoad_25 rfl (lv_at hl 3 rfl) ?_
  refine lv_iadd hx hb dX5_addRoad_26 ?_
  refine lv_iload hx hb dX5_addRoad_27 (lv_at hl 0 rfl) ?_
  obtain ⟨g3, hf⟩ := gd_some hf
  refine va_iast (f := σL.2 0) (n := 64) (cA := cI) hx hb hK hP hD hS 1 0 rfl rfl g3 dX5_addRoad_29 (fun H locs hP hD hS => ?_)
  obtain ⟨σ4, eσ4, hf⟩ := nm_some hf
  replace hP : va_P D vwCl (xL uL cI cB cR cM cJ σ4) H := by rw [eσ4]; exact hP
  replace hD : va_D A (xL uL cI cB cR cM cJ σ4) := by rw [eσ4]; exact hD
  refine lv_aload_n hx hb dX5_addRoad_30 rfl (lv_at hl 1 rfl) ?_
  refine Lg_0 S hinX5 hK hP 0 rfl f11 dX5_addRoad_31 ?_
  refine lv_iload_n hx hb dX5_addRoad_34 rfl (lv_at hl 3 rfl) ?_
  refine lv_bipush (v := 8) hx hb dX5_addRoad_35 (by decide) ?_
  refine lv_imul hx hb dX5_addRoad_37 ?_
  refine lv_iload_n hx hb dX5_addRoad_38 rfl (lv_at hl 2 rfl) ?_
  refine lv_iadd hx hb dX5_addRoad_39 ?_
  refine lv_iload hx hb dX5_addRoad_40 (lv_at hl 0 rfl) ?_
  obtain ⟨g5, hf⟩ := gd_some hf
  refine va_iast (f := σ4.2 0) (n := 64) (cA := cI) hx hb hK hP hD hS 1 0 rfl rfl g5 dX5_addRoad_42 (fun H locs hP hD hS => ?_)
  obtain ⟨σ6, eσ6, hf⟩ := nm_some hf
  replace hP : va_P D vwCl (xL uL cI cB cR cM cJ σ6) H := by rw [eσ6]; exact hP
  replace hD : va_D A (xL uL cI cB cR cM cJ σ6) := by rw [eσ6]; exact hD
  exact hre _ _ _ _ _ hf hP hD hS dX5_addRoad_43
def FL_addHolder (σL : MS) (a1 : Int32) : Option MS :=
  if 6 ≤ (σL.1 6) then (some (σL)) else (gd (¬ (((σL.1 6) : Int32) < 0 ∨ 6 ≤ Int32.toNatClampNeg (σL.1 6))) (nm (setA σL 1 (Int32.toNatClampNeg (σL.1 6)) a1) fun (σ3 : MS) => nm (setF σ3 6 ((σ3.1 6) + 1)) fun (σ4 : MS) => some (σ4)))
set_option maxHeartbeats 4000000 in
set_option maxRecDepth 100000 in
theorem kL_addHolder (l : Launch) (D : va_G) (uL : Nat → Nat) (cI cB cR cM cJ : ClassId) (t : Nat → Nat) (σL : MS) (a1 : Int32) (σL' : MS) (hf : FL_addHolder σL a1 = some (σL')) : KZ l D (ctys cI cB cR cM cJ) t yX5_addHolder wsX5_addHolder 0 0 [.ref (uL 0), .int a1] (xL uL cI cB cR cM cJ σL) none (xL uL cI cB cR cM cJ σL') := by
  refine KZ.ofV (own := RX5) (cc := cX5_addHolder) (maxL := 2) (by decide) rfl rfl (Nat.le_of_ble_eq_true rfl) ?_
  intro p e s m args below meth c R Q A ls S hRf hRl hK hA hP hD hS hl hZ hret
  obtain ⟨hx, hb, hml, hown, hts⟩ := id S
  have f32 := hts (.fieldLink RX5 32 "PenniesAway$Realm" "holders" "I") (by decide +kernel)
  have hinX5 : ∀ w ∈ wsX50, w ∈ wsX5_addHolder := fun w hw => List.mem_cons_of_mem _ (List.mem_append_right _ hw)
  have f15 := hts (.fieldLink RX5 15 "PenniesAway$Realm" "towns" "[I") (by decide +kernel)
  have hl : lv_has ls 2 [(0, .ref (uL 0)), (1, .int a1)] := hl
  have hre : ∀ (τL : MS) (pc : Nat) (ls : Array Slot) (H : Heap) (locs : List Loc), (some (τL) : Option MS) = some (σL') → va_P D vwCl (xL uL cI cB cR cM cJ τL) H → va_D A (xL uL cI cB cR cM cJ τL) → va_S A s.heap H locs → decode cX5_addHolder pc = .ok (.return_, 1) → W p l e R s m args below meth c H locs 0 0 Q (F0 m pc ls []) := by intro τL pc ls H locs he; cases he; exact hret pc ls H locs
  unfold FL_addHolder at hf
  refine lv_aload_n hx hb dX5_addHolder_0 rfl (lv_at hl 0 rfl) ?_
  refine Lg_6 S hinX5 hK hP 0 rfl f32 dX5_addHolder_1 ?_
  refine lv_bipush (v := 6) hx hb dX5_addHolder_4 (by decide) ?_
  refine lv_icmp_ge (tgt := 29) hx hb dX5_addHolder_6 (by decide) (fun c1 => ?_) (fun c1 => ?_)
  · have hf := (if_pos c1).symm.trans hf
    exact hre _ _ _ _ _ hf hP hD hS dX5_addHolder_29
  · have hf := (if_neg c1).symm.trans hf
    refine lv_aload_n hx hb dX5_addHolder_9 rfl (lv_at hl 0 rfl) ?_
    refine Lg_1 S hinX5 hK hP 0 rfl f15 dX5_addHolder_10 ?_
    refine lv_aload_n hx hb dX5_addHolder_13 rfl (lv_at hl 0 rfl) ?_
    refine Lg_6 S hinX5 hK hP 0 rfl f32 dX5_addHolder_14 ?_
    refine lv_iload_n hx hb dX5_addHolder_17 rfl (lv_at hl 1 rfl) ?_
    obtain ⟨g2, hf⟩ := gd_some hf
    refine va_iast (f := σL.2 1) (n := 6) (cA := cI) hx hb hK hP hD hS 2 0 rfl rfl g2 dX5_addHolder_18 (fun H locs hP hD hS => ?_)
    obtain ⟨σ3, eσ3, hf⟩ := nm_some hf
    replace hP : va_P D vwCl (xL uL cI cB cR cM cJ σ3) H := by rw [eσ3]; exact hP
    replace hD : va_D A (xL uL cI cB cR cM cJ σ3) := by rw [eσ3]; exact hD
    refine lv_aload_n hx hb dX5_addHolder_19 rfl (lv_at hl 0 rfl) ?_
    refine lv_dup hx hb dX5_addHolder_20 rfl ?_
    refine Lg_6 S hinX5 hK hP 0 rfl f32 dX5_addHolder_21 ?_
    refine lv_iconst (v := 1) hx hb dX5_addHolder_24 (by decide) ?_
    refine lv_iadd hx hb dX5_addHolder_25 ?_
    refine Lp_6 S hinX5 hK hP hD hS 0 rfl f32 dX5_addHolder_26 (fun H locs hP hD hS => ?_)
    obtain ⟨σ4, eσ4, hf⟩ := nm_some hf
    replace hP : va_P D vwCl (xL uL cI cB cR cM cJ σ4) H := by rw [eσ4]; exact hP
    replace hD : va_D A (xL uL cI cB cR cM cJ σ4) := by rw [eσ4]; exact hD
    exact hre _ _ _ _ _ hf hP hD hS dX5_addHolder_29
def FL_put (σL : MS) (a1 : Int32) (a2 : Int32) (a3 : Int32) : Option MS :=
  gd (¬ ((((a1 * 5) + a2) : Int32) < 0 ∨ 61 ≤ Int32.toNatClampNeg ((a1 * 5) + a2))) (nm (setA σL 3 (Int32.toNatClampNeg ((a1 * 5) + a2)) a3) fun (σ2 : MS) => some (σ2))
set_option maxHeartbeats 4000000 in
set_option maxRecDepth 100000 in
theorem kL_put (l : Launch) (D : va_G) (uL : Nat → Nat) (cI cB cR cM cJ : ClassId) (t : Nat → Nat) (σL : MS) (a1 : Int32) (a2 : Int32) (a3 : Int32) (σL' : MS) (hf : FL_put σL a1 a2 a3 = some (σL')) : KZ l D (ctys cI cB cR cM cJ) t yX5_put wsX5_put 0 0 [.ref (uL 0), .int a1, .int a2, .int a3] (xL uL cI cB cR cM cJ σL) none (xL uL cI cB cR cM cJ σL') := by
  refine KZ.ofV (own := RX5) (cc := cX5_put) (maxL := 4) (by decide) rfl rfl (Nat.le_of_ble_eq_true rfl) ?_
  intro p e s m args below meth c R Q A ls S hRf hRl hK hA hP hD hS hl hZ hret
  obtain ⟨hx, hb, hml, hown, hts⟩ := id S
  have f21 := hts (.fieldLink RX5 21 "PenniesAway$Realm" "changing" "[I") (by decide +kernel)
  have hinX5 : ∀ w ∈ wsX50, w ∈ wsX5_put := fun w hw => List.mem_cons_of_mem _ (List.mem_append_right _ hw)
  have hl : lv_has ls 4 [(0, .ref (uL 0)), (1, .int a1), (2, .int a2), (3, .int a3)] := hl
  have hre : ∀ (τL : MS) (pc : Nat) (ls : Array Slot) (H : Heap) (locs : List Loc), (some (τL) : Option MS) = some (σL') → va_P D vwCl (xL uL cI cB cR cM cJ τL) H → va_D A (xL uL cI cB cR cM cJ τL) → va_S A s.heap H locs → decode cX5_put pc = .ok (.return_, 1) → W p l e R s m args below meth c H locs 0 0 Q (F0 m pc ls []) := by intro τL pc ls H locs he; cases he; exact hret pc ls H locs
  unfold FL_put at hf
  refine lv_aload_n hx hb dX5_put_0 rfl (lv_at hl 0 rfl) ?_
  refine Lg_3 S hinX5 hK hP 0 rfl f21 dX5_put_1 ?_
  refine lv_iload_n hx hb dX5_put_4 rfl (lv_at hl 1 rfl) ?_
  refine lv_iconst (v := 5) hx hb dX5_put_5 (by decide) ?_
  refine lv_imul hx hb dX5_put_6 ?_
  refine lv_iload_n hx hb dX5_put_7 rfl (lv_at hl 2 rfl) ?_
  refine lv_iadd hx hb dX5_put_8 ?_
  refine lv_iload_n hx hb dX5_put_9 rfl (lv_at hl 3 rfl) ?_
  obtain ⟨g1, hf⟩ := gd_some hf
  refine va_iast (f := σL.2 3) (n := 61) (cA := cI) hx hb hK hP hD hS 4 0 rfl rfl g1 dX5_put_10 (fun H locs hP hD hS => ?_)
  obtain ⟨σ2, eσ2, hf⟩ := nm_some hf
  replace hP : va_P D vwCl (xL uL cI cB cR cM cJ σ2) H := by rw [eσ2]; exact hP
  replace hD : va_D A (xL uL cI cB cR cM cJ σ2) := by rw [eσ2]; exact hD
  exact hre _ _ _ _ _ hf hP hD hS dX5_put_11
def FL_addCoin (σL : MS) (a1 : Int32) (a2 : Int32) (a3 : Int32) : Option MS :=
  if 12 ≤ (σL.1 7) then (some (σL)) else (gd (¬ (((σL.1 7) : Int32) < 0 ∨ 12 ≤ Int32.toNatClampNeg (σL.1 7))) (nm (setA σL 2 (Int32.toNatClampNeg (σL.1 7)) a1) fun (σ3 : MS) => Option.bind (FL_put σ3 (σ3.1 7) 0 a2) fun (σ5 : MS) => Option.bind (FL_put σ5 (σ5.1 7) 1 a3) fun (σ7 : MS) => nm (setF σ7 7 ((σ7.1 7) + 1)) fun (σ8 : MS) => some (σ8)))
set_option maxHeartbeats 4000000 in
set_option maxRecDepth 100000 in
theorem kL_addCoin (l : Launch) (D : va_G) (uL : Nat → Nat) (cI cB cR cM cJ : ClassId) (t : Nat → Nat) (σL : MS) (a1 : Int32) (a2 : Int32) (a3 : Int32) (σL' : MS) (hf : FL_addCoin σL a1 a2 a3 = some (σL')) : KZ l D (ctys cI cB cR cM cJ) t yX5_addCoin wsX5_addCoin 1 23 [.ref (uL 0), .int a1, .int a2, .int a3] (xL uL cI cB cR cM cJ σL) none (xL uL cI cB cR cM cJ σL') := by
  refine KZ.ofV (own := RX5) (cc := cX5_addCoin) (maxL := 4) (by decide) rfl rfl (Nat.le_of_ble_eq_true rfl) ?_
  intro p e s m args below meth c R Q A ls S hRf hRl hK hA hP hD hS hl hZ hret
  obtain ⟨hx, hb, hml, hown, hts⟩ := id S
  have f35 := hts (.fieldLink RX5 35 "PenniesAway$Realm" "coins" "I") (by decide +kernel)
  have hinX5 : ∀ w ∈ wsX50, w ∈ wsX5_addCoin := fun w hw => List.mem_cons_of_mem _ (List.mem_append_right _ hw)
  have f18 := hts (.fieldLink RX5 18 "PenniesAway$Realm" "kinds" "[I") (by decide +kernel)
  have hl : lv_has ls 4 [(0, .ref (uL 0)), (1, .int a1), (2, .int a2), (3, .int a3)] := hl
  have hre : ∀ (τL : MS) (pc : Nat) (ls : Array Slot) (H : Heap) (locs : List Loc), (some (τL) : Option MS) = some (σL') → va_P D vwCl (xL uL cI cB cR cM cJ τL) H → va_D A (xL uL cI cB cR cM cJ τL) → va_S A s.heap H locs → decode cX5_addCoin pc = .ok (.return_, 1) → W p l e R s m args below meth c H locs 0 0 Q (F0 m pc ls []) := by intro τL pc ls H locs he; cases he; exact hret pc ls H locs
  unfold FL_addCoin at hf
  refine lv_aload_n hx hb dX5_addCoin_0 rfl (lv_at hl 0 rfl) ?_
  refine Lg_7 S hinX5 hK hP 0 rfl f35 dX5_addCoin_1 ?_
  refine lv_bipush (v := 12) hx hb dX5_addCoin_4 (by decide) ?_
  refine lv_icmp_ge (tgt := 49) hx hb dX5_addCoin_6 (by decide) (fun c1 => ?_) (fun c1 => ?_)
  · have hf := (if_pos c1).symm.trans hf
    exact hre _ _ _ _ _ hf hP hD hS dX5_addCoin_49
  · have hf := (if_neg c1).symm.trans hf
    refine lv_aload_n hx hb dX5_addCoin_9 rfl (lv_at hl 0 rfl) ?_
    refine Lg_2 S hinX5 hK hP 0 rfl f18 dX5_addCoin_10 ?_
    refine lv_aload_n hx hb dX5_addCoin_13 rfl (lv_at hl 0 rfl) ?_
    refine Lg_7 S hinX5 hK hP 0 rfl f35 dX5_addCoin_14 ?_
    refine lv_iload_n hx hb dX5_addCoin_17 rfl (lv_at hl 1 rfl) ?_
    obtain ⟨g2, hf⟩ := gd_some hf
    refine va_iast (f := σL.2 2) (n := 12) (cA := cI) hx hb hK hP hD hS 3 0 rfl rfl g2 dX5_addCoin_18 (fun H locs hP hD hS => ?_)
    obtain ⟨σ3, eσ3, hf⟩ := nm_some hf
    replace hP : va_P D vwCl (xL uL cI cB cR cM cJ σ3) H := by rw [eσ3]; exact hP
    replace hD : va_D A (xL uL cI cB cR cM cJ σ3) := by rw [eσ3]; exact hD
    refine lv_aload_n hx hb dX5_addCoin_19 rfl (lv_at hl 0 rfl) ?_
    refine lv_aload_n hx hb dX5_addCoin_20 rfl (lv_at hl 0 rfl) ?_
    refine Lg_7 S hinX5 hK hP 0 rfl f35 dX5_addCoin_21 ?_
    refine lv_iconst (v := 0) hx hb dX5_addCoin_24 (by decide) ?_
    refine lv_iload_n hx hb dX5_addCoin_25 rfl (lv_at hl 2 rfl) ?_
    obtain ⟨σ5, hr4, hf⟩ := bi_some hf
    refine kz_v (ci := 4) (q0 := 0) (n := 3) S hRf hRl hK hA hZ hP hD hS hl [0, 1, 2, 3, 4] [.int (σ3.1 7), .int 0, .int a2] [] (kL_put l D uL cI cB cR cM cJ t σ3 (σ3.1 7) 0 a2 σ5 hr4) rfl rfl rfl gX5_addCoin_X5_put rfl (by decide +kernel) rfl ⟨by decide, by decide⟩ rfl rfl rfl rfl (Nat.le_of_ble_eq_true rfl) dX5_addCoin_26 (fun H locs hP hD hS => ?_)
    replace hP : va_P D vwCl (xL uL cI cB cR cM cJ σ5) H := hP
    replace hD : va_D A (xL uL cI cB cR cM cJ σ5) := hD
    refine W.eq (g2 := F0 m 29 ls []) rfl ?_
    refine lv_aload_n hx hb dX5_addCoin_29 rfl (lv_at hl 0 rfl) ?_
    refine lv_aload_n hx hb dX5_addCoin_30 rfl (lv_at hl 0 rfl) ?_
    refine Lg_7 S hinX5 hK hP 0 rfl f35 dX5_addCoin_31 ?_
    refine lv_iconst (v := 1) hx hb dX5_addCoin_34 (by decide) ?_
    refine lv_iload_n hx hb dX5_addCoin_35 rfl (lv_at hl 3 rfl) ?_
    obtain ⟨σ7, hr6, hf⟩ := bi_some hf
    refine kz_v (ci := 4) (q0 := 0) (n := 3) S hRf hRl hK hA hZ hP hD hS hl [0, 1, 2, 3, 4] [.int (σ5.1 7), .int 1, .int a3] [] (kL_put l D uL cI cB cR cM cJ t σ5 (σ5.1 7) 1 a3 σ7 hr6) rfl rfl rfl gX5_addCoin_X5_put rfl (by decide +kernel) rfl ⟨by decide, by decide⟩ rfl rfl rfl rfl (Nat.le_of_ble_eq_true rfl) dX5_addCoin_36 (fun H locs hP hD hS => ?_)
    replace hP : va_P D vwCl (xL uL cI cB cR cM cJ σ7) H := hP
    replace hD : va_D A (xL uL cI cB cR cM cJ σ7) := hD
    refine W.eq (g2 := F0 m 39 ls []) rfl ?_
    refine lv_aload_n hx hb dX5_addCoin_39 rfl (lv_at hl 0 rfl) ?_
    refine lv_dup hx hb dX5_addCoin_40 rfl ?_
    refine Lg_7 S hinX5 hK hP 0 rfl f35 dX5_addCoin_41 ?_
    refine lv_iconst (v := 1) hx hb dX5_addCoin_44 (by decide) ?_
    refine lv_iadd hx hb dX5_addCoin_45 ?_
    refine Lp_7 S hinX5 hK hP hD hS 0 rfl f35 dX5_addCoin_46 (fun H locs hP hD hS => ?_)
    obtain ⟨σ8, eσ8, hf⟩ := nm_some hf
    replace hP : va_P D vwCl (xL uL cI cB cR cM cJ σ8) H := by rw [eσ8]; exact hP
    replace hD : va_D A (xL uL cI cB cR cM cJ σ8) := by rw [eσ8]; exact hD
    exact hre _ _ _ _ _ hf hP hD hS dX5_addCoin_49
