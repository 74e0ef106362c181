def FL_shortenWays_18 (ag2 : MS → Int32 → Option MS) (ag10 : MS → Int32 → Int32 → Option MS) : Nat → MS → Int32 → Int32 → Int32 → Option MS
  | 0, _, _, _, _ => none
  | n + 1, σL, l1, l2, l3 => if 8 ≤ l3 then (nm (l2 + 1) fun (x5 : Int32) => ag10 σL l1 x5) else (gd (¬ ((((l2 * 8) + l1) : Int32) < 0 ∨ 64 ≤ Int32.toNatClampNeg ((l2 * 8) + l1))) (gd (¬ ((((l1 * 8) + l3) : Int32) < 0 ∨ 64 ≤ Int32.toNatClampNeg ((l1 * 8) + l3))) (nm ((σL.2 0 (Int32.toNatClampNeg ((l2 * 8) + l1))) + (σL.2 0 (Int32.toNatClampNeg ((l1 * 8) + l3)))) fun (x8 : Int32) => gd (¬ ((((l2 * 8) + l3) : Int32) < 0 ∨ 64 ≤ Int32.toNatClampNeg ((l2 * 8) + l3))) (gd (¬ ((((l2 * 8) + l3) : Int32) < 0 ∨ 64 ≤ Int32.toNatClampNeg ((l2 * 8) + l3))) (nm (setA σL 0 (Int32.toNatClampNeg ((l2 * 8) + l3)) (if x8 < (σL.2 0 (Int32.toNatClampNeg ((l2 * 8) + l3))) then x8 else (σL.2 0 (Int32.toNatClampNeg ((l2 * 8) + l3))))) fun (σ11 : MS) => nm (l3 + 1) fun (x12 : Int32) => (FL_shortenWays_18 ag2 ag10 n) σ11 l1 l2 x12)))))
def FL_shortenWays_10 (ag2 : MS → Int32 → Option MS) : Nat → MS → Int32 → Int32 → Option MS
  | 0, _, _, _ => none
  | n + 1, σL, l1, l2 => if 8 ≤ l2 then (nm (l1 + 1) fun (x3 : Int32) => ag2 σL x3) else (FL_shortenWays_18 ag2 (FL_shortenWays_10 ag2 n) fuelN σL l1 l2 0)
def FL_shortenWays_2 : Nat → MS → Int32 → Option MS
  | 0, _, _ => none
  | n + 1, σL, l1 => if 8 ≤ l1 then (some (σL)) else (FL_shortenWays_10 (FL_shortenWays_2 n) fuelN σL l1 0)
def FL_shortenWays (σL : MS) : Option MS :=
  FL_shortenWays_2 fuelN σL 0
set_option maxHeartbeats 4000000 in
set_option maxRecDepth 100000 in
theorem kL_shortenWays (l : Launch) (D : va_G) (uL : Nat → Nat) (cI cB cR cM cJ : ClassId) (t : Nat → Nat) (σL : MS) (σL' : MS) (hf : FL_shortenWays σL = some (σL')) : KZ l D (ctys cI cB cR cM cJ) t yX5_shortenWays wsX5_shortenWays 1 24 [.ref (uL 0)] (xL uL cI cB cR cM cJ σL) none (xL uL cI cB cR cM cJ σL') := by
  refine KZ.ofV (own := RX5) (cc := cX5_shortenWays) (maxL := 5) (by decide) rfl rfl (Nat.le_of_ble_eq_true rfl) ?_
  intro p e s m args below meth c R Q A ls S hRf hRl hK hA hP hD hS hl hZ hret
  obtain ⟨hx, hb, hml, hown, hts⟩ := id S
  have f11 := hts (.fieldLink RX5 11 "PenniesAway$Realm" "ways" "[I") (by decide +kernel)
  have hinX5 : ∀ w ∈ wsX50, w ∈ wsX5_shortenWays := fun w hw => List.mem_cons_of_mem _ (List.mem_append_right _ hw)
  have ml51 := hts (.methodLink RX5 51 Lib.Math.min.name) (by decide +kernel)
  have msmin := hts (.static Lib.Math.min.name) (by decide +kernel)
  have mini := hts (.initialized "java/lang/Math") (by decide +kernel)
  have mcmin := hts (.code Lib.Math.min.name Lib.Math.min.code 2 (some .int)) (by decide +kernel)
  have hl : lv_has ls 5 [(0, .ref (uL 0))] := hl
  have hre : ∀ (τL : MS) (pc : Nat) (ls : Array Slot) (H : Heap) (locs : List Loc), (some (τL) : Option MS) = some (σL') → va_P D vwCl (xL uL cI cB cR cM cJ τL) H → va_D A (xL uL cI cB cR cM cJ τL) → va_S A s.heap H locs → decode cX5_shortenWays pc = .ok (.return_, 1) → W p l e R s m args below meth c H locs 0 0 Q (F0 m pc ls []) := by intro τL pc ls H locs he; cases he; exact hret pc ls H locs
  have b18 : ∀ (ag2 : MS → Int32 → Option MS) (hag2 : ∀ (σL : MS) (l1 : Int32) (ls : Array Slot) (H : Heap) (locs : List Loc), ag2 σL l1 = some (σL') → lv_has ls 5 [(0, .ref (uL 0)), (1, .int l1)] → va_P D vwCl (xL uL cI cB cR cM cJ σL) H → va_D A (xL uL cI cB cR cM cJ σL) → va_S A s.heap H locs → W p l e R s m args below meth c H locs 0 0 Q (F0 m 2 ls [])) (ag10 : MS → Int32 → Int32 → Option MS) (hag10 : ∀ (σL : MS) (l1 : Int32) (l2 : Int32) (ls : Array Slot) (H : Heap) (locs : List Loc), ag10 σL l1 l2 = some (σL') → lv_has ls 5 [(0, .ref (uL 0)), (1, .int l1), (2, .int l2)] → va_P D vwCl (xL uL cI cB cR cM cJ σL) H → va_D A (xL uL cI cB cR cM cJ σL) → va_S A s.heap H locs → W p l e R s m args below meth c H locs 0 0 Q (F0 m 10 ls [])) (n : Nat), ∀ (σL : MS) (l1 : Int32) (l2 : Int32) (l3 : Int32) (ls : Array Slot) (H : Heap) (locs : List Loc), FL_shortenWays_18 ag2 ag10 n σL l1 l2 l3 = some (σL') → lv_has ls 5 [(0, .ref (uL 0)), (1, .int l1), (2, .int l2), (3, .int l3)] → va_P D vwCl (xL uL cI cB cR cM cJ σL) H → va_D A (xL uL cI cB cR cM cJ σL) → va_S A s.heap H locs → W p l e R s m args below meth c H locs 0 0 Q (F0 m 18 ls []) := by
    intro ag2 hag2 ag10 hag10 n
    induction n with
    | zero => intro σL l1 l2 l3 ls H locs hf; exact absurd hf (by simp [FL_shortenWays_18])
    | succ n ih =>
      intro σL l1 l2 l3 ls H locs hf hl hP hD hS
      rw [FL_shortenWays_18] at hf
      refine lv_iload_n hx hb dX5_shortenWays_18 rfl (lv_at hl 3 rfl) ?_
      refine lv_bipush (v := 8) hx hb dX5_shortenWays_19 (by decide) ?_
      refine lv_icmp_ge (tgt := 82) hx hb dX5_shortenWays_21 (by decide) (fun c4 => ?_) (fun c4 => ?_)
      · have hf := (if_pos c4).symm.trans hf
        obtain ⟨x5, ex5, hf⟩ := nm_some hf
        refine lv_iinc (v := x5) (lv' := [(2, .int x5), (0, .ref (uL 0)), (1, .int l1), (3, .int l3)]) hx hb dX5_shortenWays_82 hl (k := 2) rfl (by rw [ex5]; rfl) (by decide) rfl (fun ls hl => ?_)
        refine lv_goto (tgt := 10) hx hb dX5_shortenWays_85 (by decide) ?_
        exact hag10 _ _ _ _ _ _ hf (lv_sub hl [1, 2, 0] rfl) hP hD hS
      · have hf := (if_neg c4).symm.trans hf
        refine lv_aload_n hx hb dX5_shortenWays_24 rfl (lv_at hl 0 rfl) ?_
        refine Lg_0 S hinX5 hK hP 0 rfl f11 dX5_shortenWays_25 ?_
        refine lv_iload_n hx hb dX5_shortenWays_28 rfl (lv_at hl 2 rfl) ?_
        refine lv_bipush (v := 8) hx hb dX5_shortenWays_29 (by decide) ?_
        refine lv_imul hx hb dX5_shortenWays_31 ?_
        refine lv_iload_n hx hb dX5_shortenWays_32 rfl (lv_at hl 1 rfl) ?_
        refine lv_iadd hx hb dX5_shortenWays_33 ?_
        obtain ⟨g6, hf⟩ := gd_some hf
        refine va_iald (f := σL.2 0) (n := 64) (cA := cI) hx hb hK hP 1 0 rfl rfl g6 dX5_shortenWays_34 ?_
        refine lv_aload_n hx hb dX5_shortenWays_35 rfl (lv_at hl 0 rfl) ?_
        refine Lg_0 S hinX5 hK hP 0 rfl f11 dX5_shortenWays_36 ?_
        refine lv_iload_n hx hb dX5_shortenWays_39 rfl (lv_at hl 1 rfl) ?_
        refine lv_bipush (v := 8) hx hb dX5_shortenWays_40 (by decide) ?_
        refine lv_imul hx hb dX5_shortenWays_42 ?_
        refine lv_iload_n hx hb dX5_shortenWays_43 rfl (lv_at hl 3 rfl) ?_
        refine lv_iadd hx hb dX5_shortenWays_44 ?_
        obtain ⟨g7, hf⟩ := gd_some hf
        refine va_iald (f := σL.2 0) (n := 64) (cA := cI) hx hb hK hP 1 0 rfl rfl g7 dX5_shortenWays_45 ?_
        refine lv_iadd hx hb dX5_shortenWays_46 ?_
        refine lv_topi (fun x8 ex8 => ?_)
        have hf := nm_at ex8 hf
        refine lv_istore (lv' := [(4, .int x8), (0, .ref (uL 0)), (1, .int l1), (2, .int l2), (3, .int l3)]) hx hb dX5_shortenWays_47 hl (by decide) rfl (fun ls hl => ?_)
        refine lv_aload_n hx hb dX5_shortenWays_49 rfl (lv_at hl 1 rfl) ?_
        refine Lg_0 S hinX5 hK hP 0 rfl f11 dX5_shortenWays_50 ?_
        refine lv_iload_n hx hb dX5_shortenWays_53 rfl (lv_at hl 3 rfl) ?_
        refine lv_bipush (v := 8) hx hb dX5_shortenWays_54 (by decide) ?_
        refine lv_imul hx hb dX5_shortenWays_56 ?_
        refine lv_iload_n hx hb dX5_shortenWays_57 rfl (lv_at hl 4 rfl) ?_
        refine lv_iadd hx hb dX5_shortenWays_58 ?_
        refine lv_aload_n hx hb dX5_shortenWays_59 rfl (lv_at hl 1 rfl) ?_
        refine Lg_0 S hinX5 hK hP 0 rfl f11 dX5_shortenWays_60 ?_
        refine lv_iload_n hx hb dX5_shortenWays_63 rfl (lv_at hl 3 rfl) ?_
        refine lv_bipush (v := 8) hx hb dX5_shortenWays_64 (by decide) ?_
        refine lv_imul hx hb dX5_shortenWays_66 ?_
        refine lv_iload_n hx hb dX5_shortenWays_67 rfl (lv_at hl 4 rfl) ?_
        refine lv_iadd hx hb dX5_shortenWays_68 ?_
        obtain ⟨g9, hf⟩ := gd_some hf
        refine va_iald (f := σL.2 0) (n := 64) (cA := cI) hx hb hK hP 1 0 rfl rfl g9 dX5_shortenWays_69 ?_
        refine lv_iload hx hb dX5_shortenWays_70 (lv_at hl 0 rfl) ?_
        refine va_mmin hx hb (hml.trans hl.1.symm) hown ml51 msmin mini mcmin (by rw [hRf]; decide) (by rw [hRl]; exact Nat.le_of_ble_eq_true rfl) (Nat.zero_le _) (Nat.zero_le _) dX5_shortenWays_72 ?_
        obtain ⟨g10, hf⟩ := gd_some hf
        refine va_iast (f := σL.2 0) (n := 64) (cA := cI) hx hb hK hP hD hS 1 0 rfl rfl g10 dX5_shortenWays_75 (fun H locs hP hD hS => ?_)
        obtain ⟨σ11, eσ11, hf⟩ := nm_some hf
        replace hP : va_P D vwCl (xL uL cI cB cR cM cJ σ11) H := by rw [eσ11]; exact hP
        replace hD : va_D A (xL uL cI cB cR cM cJ σ11) := by rw [eσ11]; exact hD
        obtain ⟨x12, ex12, hf⟩ := nm_some hf
        refine lv_iinc (v := x12) (lv' := [(3, .int x12), (4, .int x8), (0, .ref (uL 0)), (1, .int l1), (2, .int l2)]) hx hb dX5_shortenWays_76 hl (k := 4) rfl (by rw [ex12]; rfl) (by decide) rfl (fun ls hl => ?_)
        refine lv_goto (tgt := 18) hx hb dX5_shortenWays_79 (by decide) ?_
        exact ih _ _ _ _ _ _ _ hf (lv_sub hl [2, 3, 4, 0] rfl) hP hD hS
  have b10 : ∀ (ag2 : MS → Int32 → Option MS) (hag2 : ∀ (σL : MS) (l1 : Int32) (ls : Array Slot) (H : Heap) (locs : List Loc), ag2 σL l1 = some (σL') → lv_has ls 5 [(0, .ref (uL 0)), (1, .int l1)] → va_P D vwCl (xL uL cI cB cR cM cJ σL) H → va_D A (xL uL cI cB cR cM cJ σL) → va_S A s.heap H locs → W p l e R s m args below meth c H locs 0 0 Q (F0 m 2 ls [])) (n : Nat), ∀ (σL : MS) (l1 : Int32) (l2 : Int32) (ls : Array Slot) (H : Heap) (locs : List Loc), FL_shortenWays_10 ag2 n σL l1 l2 = some (σL') → lv_has ls 5 [(0, .ref (uL 0)), (1, .int l1), (2, .int l2)] → va_P D vwCl (xL uL cI cB cR cM cJ σL) H → va_D A (xL uL cI cB cR cM cJ σL) → va_S A s.heap H locs → W p l e R s m args below meth c H locs 0 0 Q (F0 m 10 ls []) := by
    intro ag2 hag2 n
    induction n with
    | zero => intro σL l1 l2 ls H locs hf; exact absurd hf (by simp [FL_shortenWays_10])
    | succ n ih =>
      intro σL l1 l2 ls H locs hf hl hP hD hS
      rw [FL_shortenWays_10] at hf
      refine lv_iload_n hx hb dX5_shortenWays_10 rfl (lv_at hl 2 rfl) ?_
      refine lv_bipush (v := 8) hx hb dX5_shortenWays_11 (by decide) ?_
      refine lv_icmp_ge (tgt := 88) hx hb dX5_shortenWays_13 (by decide) (fun c2 => ?_) (fun c2 => ?_)
      · have hf := (if_pos c2).symm.trans hf
        obtain ⟨x3, ex3, hf⟩ := nm_some hf
        refine lv_iinc (v := x3) (lv' := [(1, .int x3), (0, .ref (uL 0)), (2, .int l2)]) hx hb dX5_shortenWays_88 hl (k := 1) rfl (by rw [ex3]; rfl) (by decide) rfl (fun ls hl => ?_)
        refine lv_goto (tgt := 2) hx hb dX5_shortenWays_91 (by decide) ?_
        exact hag2 _ _ _ _ _ hf (lv_sub hl [1, 0] rfl) hP hD hS
      · have hf := (if_neg c2).symm.trans hf
        refine lv_iconst (v := 0) hx hb dX5_shortenWays_16 (by decide) ?_
        refine lv_istore_n (lv' := [(3, .int 0), (0, .ref (uL 0)), (1, .int l1), (2, .int l2)]) hx hb dX5_shortenWays_17 rfl hl (by decide) rfl (fun ls hl => ?_)
        exact b18 ag2 hag2 (FL_shortenWays_10 ag2 n) ih fuelN _ _ _ _ _ _ _ hf (lv_sub hl [1, 2, 3, 0] rfl) hP hD hS
  have b2 : ∀ (n : Nat), ∀ (σL : MS) (l1 : Int32) (ls : Array Slot) (H : Heap) (locs : List Loc), FL_shortenWays_2 n σL l1 = some (σL') → lv_has ls 5 [(0, .ref (uL 0)), (1, .int l1)] → va_P D vwCl (xL uL cI cB cR cM cJ σL) H → va_D A (xL uL cI cB cR cM cJ σL) → va_S A s.heap H locs → W p l e R s m args below meth c H locs 0 0 Q (F0 m 2 ls []) := by
    intro n
    induction n with
    | zero => intro σL l1 ls H locs hf; exact absurd hf (by simp [FL_shortenWays_2])
    | succ n ih =>
      intro σL l1 ls H locs hf hl hP hD hS
      rw [FL_shortenWays_2] at hf
      refine lv_iload_n hx hb dX5_shortenWays_2 rfl (lv_at hl 1 rfl) ?_
      refine lv_bipush (v := 8) hx hb dX5_shortenWays_3 (by decide) ?_
      refine lv_icmp_ge (tgt := 94) hx hb dX5_shortenWays_5 (by decide) (fun c1 => ?_) (fun c1 => ?_)
      · have hf := (if_pos c1).symm.trans hf
        exact hre _ _ _ _ _ hf hP hD hS dX5_shortenWays_94
      · have hf := (if_neg c1).symm.trans hf
        refine lv_iconst (v := 0) hx hb dX5_shortenWays_8 (by decide) ?_
        refine lv_istore_n (lv' := [(2, .int 0), (0, .ref (uL 0)), (1, .int l1)]) hx hb dX5_shortenWays_9 rfl hl (by decide) rfl (fun ls hl => ?_)
        exact b10 (FL_shortenWays_2 n) ih fuelN _ _ _ _ _ _ hf (lv_sub hl [1, 2, 0] rfl) hP hD hS
  unfold FL_shortenWays at hf
  refine lv_iconst (v := 0) hx hb dX5_shortenWays_0 (by decide) ?_
  refine lv_istore_n (lv' := [(1, .int 0), (0, .ref (uL 0))]) hx hb dX5_shortenWays_1 rfl hl (by decide) rfl (fun ls hl => ?_)
  exact b2 fuelN _ _ _ _ _ hf (lv_sub hl [1, 0] rfl) hP hD hS
def FL_takeFrom (σL : MS) (σO : MS) : Option MS :=
  gd (¬ (0 : Int32) < 0 ∧ ¬ (0 : Int32) < 0 ∧ ¬ (64 : Int32) < 0 ∧ Int32.toNatClampNeg 0 + Int32.toNatClampNeg 64 ≤ 64 ∧ Int32.toNatClampNeg 0 + Int32.toNatClampNeg 64 ≤ 64) (nm (setR σL 0 (va_cpy (σO.2 0) (σL.2 0) (Int32.toNatClampNeg 0) (Int32.toNatClampNeg 0) (Int32.toNatClampNeg 64))) fun (σ2 : MS) => gd (¬ (0 : Int32) < 0 ∧ ¬ (0 : Int32) < 0 ∧ ¬ (6 : Int32) < 0 ∧ Int32.toNatClampNeg 0 + Int32.toNatClampNeg 6 ≤ 6 ∧ Int32.toNatClampNeg 0 + Int32.toNatClampNeg 6 ≤ 6) (nm (setR σ2 1 (va_cpy (σO.2 1) (σ2.2 1) (Int32.toNatClampNeg 0) (Int32.toNatClampNeg 0) (Int32.toNatClampNeg 6))) fun (σ4 : MS) => gd (¬ (0 : Int32) < 0 ∧ ¬ (0 : Int32) < 0 ∧ ¬ (12 : Int32) < 0 ∧ Int32.toNatClampNeg 0 + Int32.toNatClampNeg 12 ≤ 12 ∧ Int32.toNatClampNeg 0 + Int32.toNatClampNeg 12 ≤ 12) (nm (setR σ4 2 (va_cpy (σO.2 2) (σ4.2 2) (Int32.toNatClampNeg 0) (Int32.toNatClampNeg 0) (Int32.toNatClampNeg 12))) fun (σ6 : MS) => gd (¬ (0 : Int32) < 0 ∧ ¬ (0 : Int32) < 0 ∧ ¬ (61 : Int32) < 0 ∧ Int32.toNatClampNeg 0 + Int32.toNatClampNeg 61 ≤ 61 ∧ Int32.toNatClampNeg 0 + Int32.toNatClampNeg 61 ≤ 61) (nm (setR σ6 3 (va_cpy (σO.2 3) (σ6.2 3) (Int32.toNatClampNeg 0) (Int32.toNatClampNeg 0) (Int32.toNatClampNeg 61))) fun (σ8 : MS) => gd ((σO.1 4) = 0 ∨ (σO.1 4) = 1) (nm (setF σ8 4 (σO.1 4)) fun (σ10 : MS) => nm (setF σ10 5 (σO.1 5)) fun (σ11 : MS) => nm (setF σ11 6 (σO.1 6)) fun (σ12 : MS) => nm (setF σ12 7 (σO.1 7)) fun (σ13 : MS) => some (σ13))))))
set_option maxHeartbeats 4000000 in
set_option maxRecDepth 100000 in
theorem kL_takeFrom (l : Launch) (D : va_G) (uL uO : Nat → Nat) (cI cB cR cM cJ : ClassId) (t : Nat → Nat) (σL : MS) (σO : MS) (σL' : MS) (hf : FL_takeFrom σL σO = some (σL')) : KZ l D (ctys cI cB cR cM cJ) t yX5_takeFrom wsX5_takeFrom 1 60 [.ref (uL 0), .ref (uO 0)] (xL uL cI cB cR cM cJ σL ++ xL uO cI cB cR cM cJ σO) none (xL uL cI cB cR cM cJ σL' ++ xL uO cI cB cR cM cJ σO) := by
  refine KZ.ofV (own := RX5) (cc := cX5_takeFrom) (maxL := 2) (by decide) rfl rfl (Nat.le_of_ble_eq_true rfl) ?_
  intro p e s m args below meth c R Q A ls S hRf hRl hK hA hP hD hS hl hZ hret
  obtain ⟨hx, hb, hml, hown, hts⟩ := id S
  have f11 := hts (.fieldLink RX5 11 "PenniesAway$Realm" "ways" "[I") (by decide +kernel)
  have hinX5 : ∀ w ∈ wsX50, w ∈ wsX5_takeFrom := fun w hw => List.mem_cons_of_mem _ (List.mem_append_right _ hw)
  have ml45 := hts (.methodLink RX5 45 arraycopyName) (by decide +kernel)
  have cnat := hts (.native arraycopyName) (by decide +kernel)
  have csta := hts (.static arraycopyName) (by decide +kernel)
  have cini := hts (.initialized "java/lang/System") (by decide +kernel)
  have f15 := hts (.fieldLink RX5 15 "PenniesAway$Realm" "towns" "[I") (by decide +kernel)
  have f18 := hts (.fieldLink RX5 18 "PenniesAway$Realm" "kinds" "[I") (by decide +kernel)
  have f21 := hts (.fieldLink RX5 21 "PenniesAway$Realm" "changing" "[I") (by decide +kernel)
  have f24 := hts (.fieldLink RX5 24 "PenniesAway$Realm" "told" "Z") (by decide +kernel)
  have f28 := hts (.fieldLink RX5 28 "PenniesAway$Realm" "leave" "I") (by decide +kernel)
  have f32 := hts (.fieldLink RX5 32 "PenniesAway$Realm" "holders" "I") (by decide +kernel)
  have f35 := hts (.fieldLink RX5 35 "PenniesAway$Realm" "coins" "I") (by decide +kernel)
  have hl : lv_has ls 2 [(0, .ref (uL 0)), (1, .ref (uO 0))] := hl
  have hre : ∀ (τL : MS) (pc : Nat) (ls : Array Slot) (H : Heap) (locs : List Loc), (some (τL) : Option MS) = some (σL') → va_P D vwCl (xL uL cI cB cR cM cJ τL ++ xL uO cI cB cR cM cJ σO) H → va_D A (xL uL cI cB cR cM cJ τL ++ xL uO cI cB cR cM cJ σO) → va_S A s.heap H locs → decode cX5_takeFrom pc = .ok (.return_, 1) → W p l e R s m args below meth c H locs 0 0 Q (F0 m pc ls []) := by intro τL pc ls H locs he; cases he; exact hret pc ls H locs
  unfold FL_takeFrom at hf
  refine lv_aload_n hx hb dX5_takeFrom_0 rfl (lv_at hl 1 rfl) ?_
  refine Lg_0 S hinX5 hK hP 5 rfl f11 dX5_takeFrom_1 ?_
  refine lv_iconst (v := 0) hx hb dX5_takeFrom_4 (by decide) ?_
  refine lv_aload_n hx hb dX5_takeFrom_5 rfl (lv_at hl 0 rfl) ?_
  refine Lg_0 S hinX5 hK hP 0 rfl f11 dX5_takeFrom_6 ?_
  refine lv_iconst (v := 0) hx hb dX5_takeFrom_9 (by decide) ?_
  refine lv_bipush (v := 64) hx hb dX5_takeFrom_10 (by decide) ?_
  obtain ⟨g1, hf⟩ := gd_some hf
  refine va_copyi (f := σO.2 0) (g := σL.2 0) (n0 := 64) (n1 := 64) (c0 := cI) (c1 := cI) (ty := .int) hx hb (hml.trans hl.1.symm) hown ml45 cnat csta cini hK hP hD hS 6 1 0 0 rfl rfl rfl rfl rfl g1.1 g1.2.1 g1.2.2.1 g1.2.2.2.1 g1.2.2.2.2 (fun _ _ => rfl) (by rw [hRf]; decide) (by rw [hRl]; exact Nat.le_of_ble_eq_true rfl) dX5_takeFrom_12 (fun H locs hP hD hS => ?_)
  obtain ⟨σ2, eσ2, hf⟩ := nm_some hf
  replace hP : va_P D vwCl (xL uL cI cB cR cM cJ σ2 ++ xL uO cI cB cR cM cJ σO) H := by rw [eσ2]; exact hP
  replace hD : va_D A (xL uL cI cB cR cM cJ σ2 ++ xL uO cI cB cR cM cJ σO) := by rw [eσ2]; exact hD
  refine lv_aload_n hx hb dX5_takeFrom_15 rfl (lv_at hl 1 rfl) ?_
  refine Lg_1 S hinX5 hK hP 5 rfl f15 dX5_takeFrom_16 ?_
  refine lv_iconst (v := 0) hx hb dX5_takeFrom_19 (by decide) ?_
  refine lv_aload_n hx hb dX5_takeFrom_20 rfl (lv_at hl 0 rfl) ?_
  refine Lg_1 S hinX5 hK hP 0 rfl f15 dX5_takeFrom_21 ?_
  refine lv_iconst (v := 0) hx hb dX5_takeFrom_24 (by decide) ?_
  refine lv_bipush (v := 6) hx hb dX5_takeFrom_25 (by decide) ?_
  obtain ⟨g3, hf⟩ := gd_some hf
  refine va_copyi (f := σO.2 1) (g := σ2.2 1) (n0 := 6) (n1 := 6) (c0 := cI) (c1 := cI) (ty := .int) hx hb (hml.trans hl.1.symm) hown ml45 cnat csta cini hK hP hD hS 7 2 0 0 rfl rfl rfl rfl rfl g3.1 g3.2.1 g3.2.2.1 g3.2.2.2.1 g3.2.2.2.2 (fun _ _ => rfl) (by rw [hRf]; decide) (by rw [hRl]; exact Nat.le_of_ble_eq_true rfl) dX5_takeFrom_27 (fun H locs hP hD hS => ?_)
  obtain ⟨σ4, eσ4, hf⟩ := nm_some hf
  replace hP : va_P D vwCl (xL uL cI cB cR cM cJ σ4 ++ xL uO cI cB cR cM cJ σO) H := by rw [eσ4]; exact hP
  replace hD : va_D A (xL uL cI cB cR cM cJ σ4 ++ xL uO cI cB cR cM cJ σO) := by rw [eσ4]; exact hD
  refine lv_aload_n hx hb dX5_takeFrom_30 rfl (lv_at hl 1 rfl) ?_
  refine Lg_2 S hinX5 hK hP 5 rfl f18 dX5_takeFrom_31 ?_
  refine lv_iconst (v := 0) hx hb dX5_takeFrom_34 (by decide) ?_
  refine lv_aload_n hx hb dX5_takeFrom_35 rfl (lv_at hl 0 rfl) ?_
  refine Lg_2 S hinX5 hK hP 0 rfl f18 dX5_takeFrom_36 ?_
  refine lv_iconst (v := 0) hx hb dX5_takeFrom_39 (by decide) ?_
  refine lv_bipush (v := 12) hx hb dX5_takeFrom_40 (by decide) ?_
  obtain ⟨g5, hf⟩ := gd_some hf
  refine va_copyi (f := σO.2 2) (g := σ4.2 2) (n0 := 12) (n1 := 12) (c0 := cI) (c1 := cI) (ty := .int) hx hb (hml.trans hl.1.symm) hown ml45 cnat csta cini hK hP hD hS 8 3 0 0 rfl rfl rfl rfl rfl g5.1 g5.2.1 g5.2.2.1 g5.2.2.2.1 g5.2.2.2.2 (fun _ _ => rfl) (by rw [hRf]; decide) (by rw [hRl]; exact Nat.le_of_ble_eq_true rfl) dX5_takeFrom_42 (fun H locs hP hD hS => ?_)
  obtain ⟨σ6, eσ6, hf⟩ := nm_some hf
  replace hP : va_P D vwCl (xL uL cI cB cR cM cJ σ6 ++ xL uO cI cB cR cM cJ σO) H := by rw [eσ6]; exact hP
  replace hD : va_D A (xL uL cI cB cR cM cJ σ6 ++ xL uO cI cB cR cM cJ σO) := by rw [eσ6]; exact hD
  refine lv_aload_n hx hb dX5_takeFrom_45 rfl (lv_at hl 1 rfl) ?_
  refine Lg_3 S hinX5 hK hP 5 rfl f21 dX5_takeFrom_46 ?_
  refine lv_iconst (v := 0) hx hb dX5_takeFrom_49 (by decide) ?_
  refine lv_aload_n hx hb dX5_takeFrom_50 rfl (lv_at hl 0 rfl) ?_
  refine Lg_3 S hinX5 hK hP 0 rfl f21 dX5_takeFrom_51 ?_
  refine lv_iconst (v := 0) hx hb dX5_takeFrom_54 (by decide) ?_
  refine lv_bipush (v := 61) hx hb dX5_takeFrom_55 (by decide) ?_
  obtain ⟨g7, hf⟩ := gd_some hf
  refine va_copyi (f := σO.2 3) (g := σ6.2 3) (n0 := 61) (n1 := 61) (c0 := cI) (c1 := cI) (ty := .int) hx hb (hml.trans hl.1.symm) hown ml45 cnat csta cini hK hP hD hS 9 4 0 0 rfl rfl rfl rfl rfl g7.1 g7.2.1 g7.2.2.1 g7.2.2.2.1 g7.2.2.2.2 (fun _ _ => rfl) (by rw [hRf]; decide) (by rw [hRl]; exact Nat.le_of_ble_eq_true rfl) dX5_takeFrom_57 (fun H locs hP hD hS => ?_)
  obtain ⟨σ8, eσ8, hf⟩ := nm_some hf
  replace hP : va_P D vwCl (xL uL cI cB cR cM cJ σ8 ++ xL uO cI cB cR cM cJ σO) H := by rw [eσ8]; exact hP
  replace hD : va_D A (xL uL cI cB cR cM cJ σ8 ++ xL uO cI cB cR cM cJ σO) := by rw [eσ8]; exact hD
  refine lv_aload_n hx hb dX5_takeFrom_60 rfl (lv_at hl 0 rfl) ?_
  refine lv_aload_n hx hb dX5_takeFrom_61 rfl (lv_at hl 1 rfl) ?_
  refine Lg_4 S hinX5 hK hP 5 rfl f24 dX5_takeFrom_62 ?_
  obtain ⟨g9, hf⟩ := gd_some hf
  refine Lp_4 S hinX5 hK hP hD hS 0 rfl f24 (by rcases g9 with g9 | g9 <;> (rw [g9]; rfl)) (by rcases g9 with g9 | g9 <;> (rw [g9]; rfl)) dX5_takeFrom_65 (fun H locs hP hD hS => ?_)
  obtain ⟨σ10, eσ10, hf⟩ := nm_some hf
  replace hP : va_P D vwCl (xL uL cI cB cR cM cJ σ10 ++ xL uO cI cB cR cM cJ σO) H := by rw [eσ10]; exact hP
  replace hD : va_D A (xL uL cI cB cR cM cJ σ10 ++ xL uO cI cB cR cM cJ σO) := by rw [eσ10]; exact hD
  refine lv_aload_n hx hb dX5_takeFrom_68 rfl (lv_at hl 0 rfl) ?_
  refine lv_aload_n hx hb dX5_takeFrom_69 rfl (lv_at hl 1 rfl) ?_
  refine Lg_5 S hinX5 hK hP 5 rfl f28 dX5_takeFrom_70 ?_
  refine Lp_5 S hinX5 hK hP hD hS 0 rfl f28 dX5_takeFrom_73 (fun H locs hP hD hS => ?_)
  obtain ⟨σ11, eσ11, hf⟩ := nm_some hf
  replace hP : va_P D vwCl (xL uL cI cB cR cM cJ σ11 ++ xL uO cI cB cR cM cJ σO) H := by rw [eσ11]; exact hP
  replace hD : va_D A (xL uL cI cB cR cM cJ σ11 ++ xL uO cI cB cR cM cJ σO) := by rw [eσ11]; exact hD
  refine lv_aload_n hx hb dX5_takeFrom_76 rfl (lv_at hl 0 rfl) ?_
  refine lv_aload_n hx hb dX5_takeFrom_77 rfl (lv_at hl 1 rfl) ?_
  refine Lg_6 S hinX5 hK hP 5 rfl f32 dX5_takeFrom_78 ?_
  refine Lp_6 S hinX5 hK hP hD hS 0 rfl f32 dX5_takeFrom_81 (fun H locs hP hD hS => ?_)
  obtain ⟨σ12, eσ12, hf⟩ := nm_some hf
  replace hP : va_P D vwCl (xL uL cI cB cR cM cJ σ12 ++ xL uO cI cB cR cM cJ σO) H := by rw [eσ12]; exact hP
  replace hD : va_D A (xL uL cI cB cR cM cJ σ12 ++ xL uO cI cB cR cM cJ σO) := by rw [eσ12]; exact hD
  refine lv_aload_n hx hb dX5_takeFrom_84 rfl (lv_at hl 0 rfl) ?_
  refine lv_aload_n hx hb dX5_takeFrom_85 rfl (lv_at hl 1 rfl) ?_
  refine Lg_7 S hinX5 hK hP 5 rfl f35 dX5_takeFrom_86 ?_
  refine Lp_7 S hinX5 hK hP hD hS 0 rfl f35 dX5_takeFrom_89 (fun H locs hP hD hS => ?_)
  obtain ⟨σ13, eσ13, hf⟩ := nm_some hf
  replace hP : va_P D vwCl (xL uL cI cB cR cM cJ σ13 ++ xL uO cI cB cR cM cJ σO) H := by rw [eσ13]; exact hP
  replace hD : va_D A (xL uL cI cB cR cM cJ σ13 ++ xL uO cI cB cR cM cJ σO) := by rw [eσ13]; exact hD
  exact hre _ _ _ _ _ hf hP hD hS dX5_takeFrom_92
def FL_distance (σL : MS) (a1 : Int32) (a2 : Int32) : Option Int32 :=
  gd (¬ ((((a1 * 8) + a2) : Int32) < 0 ∨ 64 ≤ Int32.toNatClampNeg ((a1 * 8) + a2))) (nm (σL.2 0 (Int32.toNatClampNeg ((a1 * 8) + a2))) fun (x2 : Int32) => if x2 < 1000000 then (some (x2)) else (some ((-1000000))))
set_option maxHeartbeats 4000000 in
set_option maxRecDepth 100000 in
theorem kL_distance (l : Launch) (D : va_G) (uL : Nat → Nat) (cI cB cR cM cJ : ClassId) (t : Nat → Nat) (σL : MS) (a1 : Int32) (a2 : Int32) (r : Int32) (hf : FL_distance σL a1 a2 = some (r)) : KZ l D (ctys cI cB cR cM cJ) t yX5_distance wsX5_distance 0 0 [.ref (uL 0), .int a1, .int a2] (xL uL cI cB cR cM cJ σL) (some (.int r)) (xL uL cI cB cR cM cJ σL) := by
  refine KZ.ofI (own := RX5) (cc := cX5_distance) (maxL := 4) (by decide) rfl rfl (Nat.le_of_ble_eq_true rfl) ?_
  intro p e s m args below meth c R Q A ls S hRf hRl hK hA hP hD hS hl hZ hret
  obtain ⟨hx, hb, hml, hown, hts⟩ := id S
  have f11 := hts (.fieldLink RX5 11 "PenniesAway$Realm" "ways" "[I") (by decide +kernel)
  have hinX5 : ∀ w ∈ wsX50, w ∈ wsX5_distance := fun w hw => List.mem_cons_of_mem _ (List.mem_append_right _ hw)
  have c38 := hts (.constant RX5 38 (1000000)) (by decide +kernel)
  have c61 := hts (.constant RX5 61 (-1000000)) (by decide +kernel)
  have hl : lv_has ls 4 [(0, .ref (uL 0)), (1, .int a1), (2, .int a2)] := hl
  have hre : ∀ (x : Int32) (pc : Nat) (ls : Array Slot) (H : Heap) (locs : List Loc), (some (x) : Option Int32) = some (r) → va_P D vwCl (xL uL cI cB cR cM cJ σL) H → va_D A (xL uL cI cB cR cM cJ σL) → va_S A s.heap H locs → decode cX5_distance pc = .ok (.ireturn, 1) → W p l e R s m args below meth c H locs 0 0 Q (F0 m pc ls [.int x]) := by intro x pc ls H locs he; cases he; exact hret pc ls H locs
  unfold FL_distance at hf
  refine lv_aload_n hx hb dX5_distance_0 rfl (lv_at hl 0 rfl) ?_
  refine Lg_0 S hinX5 hK hP 0 rfl f11 dX5_distance_1 ?_
  refine lv_iload_n hx hb dX5_distance_4 rfl (lv_at hl 1 rfl) ?_
  refine lv_bipush (v := 8) hx hb dX5_distance_5 (by decide) ?_
  refine lv_imul hx hb dX5_distance_7 ?_
  refine lv_iload_n hx hb dX5_distance_8 rfl (lv_at hl 2 rfl) ?_
  refine lv_iadd hx hb dX5_distance_9 ?_
  obtain ⟨g1, hf⟩ := gd_some hf
  refine va_iald (f := σL.2 0) (n := 64) (cA := cI) hx hb hK hP 1 0 rfl rfl g1 dX5_distance_10 ?_
  refine lv_topi (fun x2 ex2 => ?_)
  have hf := nm_at ex2 hf
  refine lv_istore_n (lv' := [(3, .int x2), (0, .ref (uL 0)), (1, .int a1), (2, .int a2)]) hx hb dX5_distance_11 rfl hl (by decide) rfl (fun ls hl => ?_)
  refine lv_iload_n hx hb dX5_distance_12 rfl (lv_at hl 0 rfl) ?_
  refine lv_ldc (v := 1000000) hx hb hown c38 dX5_distance_13 ?_
  refine lv_icmp_lt (tgt := 23) hx hb dX5_distance_15 (by decide) (fun c3 => ?_) (fun c3 => ?_)
  · have hf := (if_pos c3).symm.trans hf
    refine lv_iload_n hx hb dX5_distance_23 rfl (lv_at hl 0 rfl) ?_
    exact hre _ _ _ _ _ hf hP hD hS dX5_distance_24
  · have hf := (if_neg c3).symm.trans hf
    refine lv_ldc (v := (-1000000)) hx hb hown c61 dX5_distance_18 ?_
    refine lv_goto (tgt := 24) hx hb dX5_distance_20 (by decide) ?_
    exact hre _ _ _ _ _ hf hP hD hS dX5_distance_24
def FL_about (σL : MS) (a1 : Int32) (a2 : Int32) : Option Int32 :=
  gd (¬ ((((a1 * 5) + a2) : Int32) < 0 ∨ 61 ≤ Int32.toNatClampNeg ((a1 * 5) + a2))) (some ((σL.2 3 (Int32.toNatClampNeg ((a1 * 5) + a2)))))
set_option maxHeartbeats 4000000 in
set_option maxRecDepth 100000 in
theorem kL_about (l : Launch) (D : va_G) (uL : Nat → Nat) (cI cB cR cM cJ : ClassId) (t : Nat → Nat) (σL : MS) (a1 : Int32) (a2 : Int32) (r : Int32) (hf : FL_about σL a1 a2 = some (r)) : KZ l D (ctys cI cB cR cM cJ) t yX5_about wsX5_about 0 0 [.ref (uL 0), .int a1, .int a2] (xL uL cI cB cR cM cJ σL) (some (.int r)) (xL uL cI cB cR cM cJ σL) := by
  refine KZ.ofI (own := RX5) (cc := cX5_about) (maxL := 3) (by decide) rfl rfl (Nat.le_of_ble_eq_true rfl) ?_
  intro p e s m args below meth c R Q A ls S hRf hRl hK hA hP hD hS hl hZ hret
  obtain ⟨hx, hb, hml, hown, hts⟩ := id S
  have f21 := hts (.fieldLink RX5 21 "PenniesAway$Realm" "changing" "[I") (by decide +kernel)
  have hinX5 : ∀ w ∈ wsX50, w ∈ wsX5_about := fun w hw => List.mem_cons_of_mem _ (List.mem_append_right _ hw)
  have hl : lv_has ls 3 [(0, .ref (uL 0)), (1, .int a1), (2, .int a2)] := hl
  have hre : ∀ (x : Int32) (pc : Nat) (ls : Array Slot) (H : Heap) (locs : List Loc), (some (x) : Option Int32) = some (r) → va_P D vwCl (xL uL cI cB cR cM cJ σL) H → va_D A (xL uL cI cB cR cM cJ σL) → va_S A s.heap H locs → decode cX5_about pc = .ok (.ireturn, 1) → W p l e R s m args below meth c H locs 0 0 Q (F0 m pc ls [.int x]) := by intro x pc ls H locs he; cases he; exact hret pc ls H locs
  unfold FL_about at hf
  refine lv_aload_n hx hb dX5_about_0 rfl (lv_at hl 0 rfl) ?_
  refine Lg_3 S hinX5 hK hP 0 rfl f21 dX5_about_1 ?_
  refine lv_iload_n hx hb dX5_about_4 rfl (lv_at hl 1 rfl) ?_
  refine lv_iconst (v := 5) hx hb dX5_about_5 (by decide) ?_
  refine lv_imul hx hb dX5_about_6 ?_
  refine lv_iload_n hx hb dX5_about_7 rfl (lv_at hl 2 rfl) ?_
  refine lv_iadd hx hb dX5_about_8 ?_
  obtain ⟨g1, hf⟩ := gd_some hf
  refine va_iald (f := σL.2 3) (n := 61) (cA := cI) hx hb hK hP 4 0 rfl rfl g1 dX5_about_9 ?_
  exact hre _ _ _ _ _ hf hP hD hS dX5_about_10
def FL_today (σL : MS) : Option Int32 :=
  gd (¬ ((60 : Int32) < 0 ∨ 61 ≤ Int32.toNatClampNeg 60)) (some ((σL.2 3 (Int32.toNatClampNeg 60))))
set_option maxHeartbeats 4000000 in
set_option maxRecDepth 100000 in
theorem kL_today (l : Launch) (D : va_G) (uL : Nat → Nat) (cI cB cR cM cJ : ClassId) (t : Nat → Nat) (σL : MS) (r : Int32) (hf : FL_today σL = some (r)) : KZ l D (ctys cI cB cR cM cJ) t yX5_today wsX5_today 0 0 [.ref (uL 0)] (xL uL cI cB cR cM cJ σL) (some (.int r)) (xL uL cI cB cR cM cJ σL) := by
  refine KZ.ofI (own := RX5) (cc := cX5_today) (maxL := 1) (by decide) rfl rfl (Nat.le_of_ble_eq_true rfl) ?_
  intro p e s m args below meth c R Q A ls S hRf hRl hK hA hP hD hS hl hZ hret
  obtain ⟨hx, hb, hml, hown, hts⟩ := id S
  have f21 := hts (.fieldLink RX5 21 "PenniesAway$Realm" "changing" "[I") (by decide +kernel)
  have hinX5 : ∀ w ∈ wsX50, w ∈ wsX5_today := fun w hw => List.mem_cons_of_mem _ (List.mem_append_right _ hw)
  have hl : lv_has ls 1 [(0, .ref (uL 0))] := hl
  have hre : ∀ (x : Int32) (pc : Nat) (ls : Array Slot) (H : Heap) (locs : List Loc), (some (x) : Option Int32) = some (r) → va_P D vwCl (xL uL cI cB cR cM cJ σL) H → va_D A (xL uL cI cB cR cM cJ σL) → va_S A s.heap H locs → decode cX5_today pc = .ok (.ireturn, 1) → W p l e R s m args below meth c H locs 0 0 Q (F0 m pc ls [.int x]) := by intro x pc ls H locs he; cases he; exact hret pc ls H locs
  unfold FL_today at hf
  refine lv_aload_n hx hb dX5_today_0 rfl (lv_at hl 0 rfl) ?_
  refine Lg_3 S hinX5 hK hP 0 rfl f21 dX5_today_1 ?_
  refine lv_bipush (v := 60) hx hb dX5_today_4 (by decide) ?_
  obtain ⟨g1, hf⟩ := gd_some hf
  refine va_iald (f := σL.2 3) (n := 61) (cA := cI) hx hb hK hP 4 0 rfl rfl g1 dX5_today_6 ?_
  exact hre _ _ _ _ _ hf hP hD hS dX5_today_7
def FL_townOf (σL : MS) (a1 : Int32) : Option Int32 :=
  Option.bind (FL_about σL a1 0) fun (r1 : Int32) => gd (¬ ((r1 : Int32) < 0 ∨ 6 ≤ Int32.toNatClampNeg r1)) (some ((σL.2 1 (Int32.toNatClampNeg r1))))
set_option maxHeartbeats 4000000 in
set_option maxRecDepth 100000 in
theorem kL_townOf (l : Launch) (D : va_G) (uL : Nat → Nat) (cI cB cR cM cJ : ClassId) (t : Nat → Nat) (σL : MS) (a1 : Int32) (r : Int32) (hf : FL_townOf σL a1 = some (r)) : KZ l D (ctys cI cB cR cM cJ) t yX5_townOf wsX5_townOf 1 22 [.ref (uL 0), .int a1] (xL uL cI cB cR cM cJ σL) (some (.int r)) (xL uL cI cB cR cM cJ σL) := by
  refine KZ.ofI (own := RX5) (cc := cX5_townOf) (maxL := 2) (by decide) rfl rfl (Nat.le_of_ble_eq_true rfl) ?_
  intro p e s m args below meth c R Q A ls S hRf hRl hK hA hP hD hS hl hZ hret
  obtain ⟨hx, hb, hml, hown, hts⟩ := id S
  have f15 := hts (.fieldLink RX5 15 "PenniesAway$Realm" "towns" "[I") (by decide +kernel)
  have hinX5 : ∀ w ∈ wsX50, w ∈ wsX5_townOf := fun w hw => List.mem_cons_of_mem _ (List.mem_append_right _ hw)
  have hl : lv_has ls 2 [(0, .ref (uL 0)), (1, .int a1)] := hl
  have hre : ∀ (x : Int32) (pc : Nat) (ls : Array Slot) (H : Heap) (locs : List Loc), (some (x) : Option Int32) = some (r) → va_P D vwCl (xL uL cI cB cR cM cJ σL) H → va_D A (xL uL cI cB cR cM cJ σL) → va_S A s.heap H locs → decode cX5_townOf pc = .ok (.ireturn, 1) → W p l e R s m args below meth c H locs 0 0 Q (F0 m pc ls [.int x]) := by intro x pc ls H locs he; cases he; exact hret pc ls H locs
  unfold FL_townOf at hf
  refine lv_aload_n hx hb dX5_townOf_0 rfl (lv_at hl 0 rfl) ?_
  refine Lg_1 S hinX5 hK hP 0 rfl f15 dX5_townOf_1 ?_
  refine lv_aload_n hx hb dX5_townOf_4 rfl (lv_at hl 0 rfl) ?_
  refine lv_iload_n hx hb dX5_townOf_5 rfl (lv_at hl 1 rfl) ?_
  refine lv_iconst (v := 0) hx hb dX5_townOf_6 (by decide) ?_
  obtain ⟨r1, hr1, hf⟩ := bi_some hf
  refine kz_v (ci := 4) (q0 := 0) (n := 2) S hRf hRl hK hA hZ hP hD hS hl [0, 1, 2, 3, 4] [.int a1, .int 0] [.ref (uL 2)] (kL_about l D uL cI cB cR cM cJ t σL a1 0 r1 hr1) rfl rfl rfl gX5_townOf_X5_about rfl (by decide +kernel) rfl ⟨by decide, by decide⟩ rfl rfl rfl rfl (Nat.le_of_ble_eq_true rfl) dX5_townOf_7 (fun H locs hP hD hS => ?_)
  replace hP : va_P D vwCl (xL uL cI cB cR cM cJ σL) H := hP
  replace hD : va_D A (xL uL cI cB cR cM cJ σL) := hD
  refine W.eq (g2 := F0 m 10 ls [.int r1, .ref (uL 2)]) rfl ?_
  obtain ⟨g2, hf⟩ := gd_some hf
  refine va_iald (f := σL.2 1) (n := 6) (cA := cI) hx hb hK hP 2 0 rfl rfl g2 dX5_townOf_10 ?_
  exact hre _ _ _ _ _ hf hP hD hS dX5_townOf_11
def FL_withHolder (σL : MS) (a1 : Int32) : Option Int32 :=
  Option.bind (FL_about σL a1 2) fun (r1 : Int32) => if r1 = 0 then (some (1)) else (some (0))
set_option maxHeartbeats 4000000 in
set_option maxRecDepth 100000 in
theorem kL_withHolder (l : Launch) (D : va_G) (uL : Nat → Nat) (cI cB cR cM cJ : ClassId) (t : Nat → Nat) (σL : MS) (a1 : Int32) (r : Int32) (hf : FL_withHolder σL a1 = some (r)) : KZ l D (ctys cI cB cR cM cJ) t yX5_withHolder wsX5_withHolder 1 22 [.ref (uL 0), .int a1] (xL uL cI cB cR cM cJ σL) (some (.int r)) (xL uL cI cB cR cM cJ σL) := by
  refine KZ.ofZ (own := RX5) (cc := cX5_withHolder) (maxL := 2) (by decide) rfl rfl (Nat.le_of_ble_eq_true rfl) ?_
  intro p e s m args below meth c R Q A ls S hRf hRl hK hA hP hD hS hl hZ hret
  obtain ⟨hx, hb, hml, hown, hts⟩ := id S
  have hl : lv_has ls 2 [(0, .ref (uL 0)), (1, .int a1)] := hl
  have hre : ∀ (x : Int32) (pc : Nat) (ls : Array Slot) (H : Heap) (locs : List Loc), (some (x) : Option Int32) = some (r) → va_P D vwCl (xL uL cI cB cR cM cJ σL) H → va_D A (xL uL cI cB cR cM cJ σL) → va_S A s.heap H locs → decode cX5_withHolder pc = .ok (.ireturn, 1) → narrow .boolean (.int x) = .int x → W p l e R s m args below meth c H locs 0 0 Q (F0 m pc ls [.int x]) := by intro x pc ls H locs he; cases he; exact hret pc ls H locs
  unfold FL_withHolder at hf
  refine lv_aload_n hx hb dX5_withHolder_0 rfl (lv_at hl 0 rfl) ?_
  refine lv_iload_n hx hb dX5_withHolder_1 rfl (lv_at hl 1 rfl) ?_
  refine lv_iconst (v := 2) hx hb dX5_withHolder_2 (by decide) ?_
  obtain ⟨r1, hr1, hf⟩ := bi_some hf
  refine kz_v (ci := 4) (q0 := 0) (n := 2) S hRf hRl hK hA hZ hP hD hS hl [0, 1, 2, 3, 4] [.int a1, .int 2] [] (kL_about l D uL cI cB cR cM cJ t σL a1 2 r1 hr1) rfl rfl rfl gX5_withHolder_X5_about rfl (by decide +kernel) rfl ⟨by decide, by decide⟩ rfl rfl rfl rfl (Nat.le_of_ble_eq_true rfl) dX5_withHolder_3 (fun H locs hP hD hS => ?_)
  replace hP : va_P D vwCl (xL uL cI cB cR cM cJ σL) H := hP
  replace hD : va_D A (xL uL cI cB cR cM cJ σL) := hD
  refine W.eq (g2 := F0 m 6 ls [.int r1]) rfl ?_
  refine lv_if_ne (tgt := 13) hx hb dX5_withHolder_6 (by decide) (fun c2 => ?_) (fun c2 => ?_)
  · have hf := (if_neg c2).symm.trans hf
    refine lv_iconst (v := 0) hx hb dX5_withHolder_13 (by decide) ?_
    exact hre _ _ _ _ _ hf hP hD hS dX5_withHolder_14 rfl
  · have hf := (if_pos c2).symm.trans hf
    refine lv_iconst (v := 1) hx hb dX5_withHolder_9 (by decide) ?_
    refine lv_goto (tgt := 14) hx hb dX5_withHolder_10 (by decide) ?_
    exact hre _ _ _ _ _ hf hP hD hS dX5_withHolder_14 rfl
def FL_underWay_20 (σL : MS) : Option Int32 :=
  some (1)
def FL_underWay (σL : MS) (a1 : Int32) : Option Int32 :=
  Option.bind (FL_about σL a1 2) fun (r1 : Int32) => if r1 = 1 then (FL_underWay_20 σL) else (Option.bind (FL_about σL a1 2) fun (r3 : Int32) => if r3 = 2 then (FL_underWay_20 σL) else (some (0)))
set_option maxHeartbeats 4000000 in
set_option maxRecDepth 100000 in
theorem kL_underWay (l : Launch) (D : va_G) (uL : Nat → Nat) (cI cB cR cM cJ : ClassId) (t : Nat → Nat) (σL : MS) (a1 : Int32) (r : Int32) (hf : FL_underWay σL a1 = some (r)) : KZ l D (ctys cI cB cR cM cJ) t yX5_underWay wsX5_underWay 1 22 [.ref (uL 0), .int a1] (xL uL cI cB cR cM cJ σL) (some (.int r)) (xL uL cI cB cR cM cJ σL) := by
  refine KZ.ofZ (own := RX5) (cc := cX5_underWay) (maxL := 2) (by decide) rfl rfl (Nat.le_of_ble_eq_true rfl) ?_
  intro p e s m args below meth c R Q A ls S hRf hRl hK hA hP hD hS hl hZ hret
  obtain ⟨hx, hb, hml, hown, hts⟩ := id S
  have hl : lv_has ls 2 [(0, .ref (uL 0)), (1, .int a1)] := hl
  have hre : ∀ (x : Int32) (pc : Nat) (ls : Array Slot) (H : Heap) (locs : List Loc), (some (x) : Option Int32) = some (r) → va_P D vwCl (xL uL cI cB cR cM cJ σL) H → va_D A (xL uL cI cB cR cM cJ σL) → va_S A s.heap H locs → decode cX5_underWay pc = .ok (.ireturn, 1) → narrow .boolean (.int x) = .int x → W p l e R s m args below meth c H locs 0 0 Q (F0 m pc ls [.int x]) := by intro x pc ls H locs he; cases he; exact hret pc ls H locs
  have b20 : ∀ (ls : Array Slot) (H : Heap) (locs : List Loc), FL_underWay_20 σL = some (r) → lv_has ls 2 [] → va_P D vwCl (xL uL cI cB cR cM cJ σL) H → va_D A (xL uL cI cB cR cM cJ σL) → va_S A s.heap H locs → W p l e R s m args below meth c H locs 0 0 Q (F0 m 20 ls []) := by
    intro ls H locs hf hl hP hD hS
    unfold FL_underWay_20 at hf
    refine lv_iconst (v := 1) hx hb dX5_underWay_20 (by decide) ?_
    refine lv_goto (tgt := 25) hx hb dX5_underWay_21 (by decide) ?_
    exact hre _ _ _ _ _ hf hP hD hS dX5_underWay_25 rfl
  unfold FL_underWay at hf
  refine lv_aload_n hx hb dX5_underWay_0 rfl (lv_at hl 0 rfl) ?_
  refine lv_iload_n hx hb dX5_underWay_1 rfl (lv_at hl 1 rfl) ?_
  refine lv_iconst (v := 2) hx hb dX5_underWay_2 (by decide) ?_
  obtain ⟨r1, hr1, hf⟩ := bi_some hf
  refine kz_v (ci := 4) (q0 := 0) (n := 2) S hRf hRl hK hA hZ hP hD hS hl [0, 1, 2, 3, 4] [.int a1, .int 2] [] (kL_about l D uL cI cB cR cM cJ t σL a1 2 r1 hr1) rfl rfl rfl gX5_underWay_X5_about rfl (by decide +kernel) rfl ⟨by decide, by decide⟩ rfl rfl rfl rfl (Nat.le_of_ble_eq_true rfl) dX5_underWay_3 (fun H locs hP hD hS => ?_)
  replace hP : va_P D vwCl (xL uL cI cB cR cM cJ σL) H := hP
  replace hD : va_D A (xL uL cI cB cR cM cJ σL) := hD
  refine W.eq (g2 := F0 m 6 ls [.int r1]) rfl ?_
  refine lv_iconst (v := 1) hx hb dX5_underWay_6 (by decide) ?_
  refine lv_icmp_eq (tgt := 20) hx hb dX5_underWay_7 (by decide) (fun c2 => ?_) (fun c2 => ?_)
  · have hf := (if_pos c2).symm.trans hf
    exact b20 _ _ _ hf (lv_sub hl [] rfl) hP hD hS
  · have hf := (if_neg c2).symm.trans hf
    refine lv_aload_n hx hb dX5_underWay_10 rfl (lv_at hl 0 rfl) ?_
    refine lv_iload_n hx hb dX5_underWay_11 rfl (lv_at hl 1 rfl) ?_
    refine lv_iconst (v := 2) hx hb dX5_underWay_12 (by decide) ?_
    obtain ⟨r3, hr3, hf⟩ := bi_some hf
    refine kz_v (ci := 4) (q0 := 0) (n := 2) S hRf hRl hK hA hZ hP hD hS hl [0, 1, 2, 3, 4] [.int a1, .int 2] [] (kL_about l D uL cI cB cR cM cJ t σL a1 2 r3 hr3) rfl rfl rfl gX5_underWay_X5_about rfl (by decide +kernel) rfl ⟨by decide, by decide⟩ rfl rfl rfl rfl (Nat.le_of_ble_eq_true rfl) dX5_underWay_13 (fun H locs hP hD hS => ?_)
    replace hP : va_P D vwCl (xL uL cI cB cR cM cJ σL) H := hP
    replace hD : va_D A (xL uL cI cB cR cM cJ σL) := hD
    refine W.eq (g2 := F0 m 16 ls [.int r3]) rfl ?_
    refine lv_iconst (v := 2) hx hb dX5_underWay_16 (by decide) ?_
    refine lv_icmp_ne (tgt := 24) hx hb dX5_underWay_17 (by decide) (fun c4 => ?_) (fun c4 => ?_)
    · have hf := (if_neg c4).symm.trans hf
      refine lv_iconst (v := 0) hx hb dX5_underWay_24 (by decide) ?_
      exact hre _ _ _ _ _ hf hP hD hS dX5_underWay_25 rfl
    · have hf := (if_pos c4).symm.trans hf
      exact b20 _ _ _ hf (lv_sub hl [] rfl) hP hD hS
def FL_forged (σL : MS) (a1 : Int32) : Option Int32 :=
  gd (¬ ((a1 : Int32) < 0 ∨ 12 ≤ Int32.toNatClampNeg a1)) (if (σL.2 2 (Int32.toNatClampNeg a1)) = 5 then (some (1)) else (some (0)))
set_option maxHeartbeats 4000000 in
set_option maxRecDepth 100000 in
theorem kL_forged (l : Launch) (D : va_G) (uL : Nat → Nat) (cI cB cR cM cJ : ClassId) (t : Nat → Nat) (σL : MS) (a1 : Int32) (r : Int32) (hf : FL_forged σL a1 = some (r)) : KZ l D (ctys cI cB cR cM cJ) t yX5_forged wsX5_forged 0 0 [.ref (uL 0), .int a1] (xL uL cI cB cR cM cJ σL) (some (.int r)) (xL uL cI cB cR cM cJ σL) := by
  refine KZ.ofZ (own := RX5) (cc := cX5_forged) (maxL := 2) (by decide) rfl rfl (Nat.le_of_ble_eq_true rfl) ?_
  intro p e s m args below meth c R Q A ls S hRf hRl hK hA hP hD hS hl hZ hret
  obtain ⟨hx, hb, hml, hown, hts⟩ := id S
  have f18 := hts (.fieldLink RX5 18 "PenniesAway$Realm" "kinds" "[I") (by decide +kernel)
  have hinX5 : ∀ w ∈ wsX50, w ∈ wsX5_forged := fun w hw => List.mem_cons_of_mem _ (List.mem_append_right _ hw)
  have hl : lv_has ls 2 [(0, .ref (uL 0)), (1, .int a1)] := hl
  have hre : ∀ (x : Int32) (pc : Nat) (ls : Array Slot) (H : Heap) (locs : List Loc), (some (x) : Option Int32) = some (r) → va_P D vwCl (xL uL cI cB cR cM cJ σL) H → va_D A (xL uL cI cB cR cM cJ σL) → va_S A s.heap H locs → decode cX5_forged pc = .ok (.ireturn, 1) → narrow .boolean (.int x) = .int x → W p l e R s m args below meth c H locs 0 0 Q (F0 m pc ls [.int x]) := by intro x pc ls H locs he; cases he; exact hret pc ls H locs
  unfold FL_forged at hf
  refine lv_aload_n hx hb dX5_forged_0 rfl (lv_at hl 0 rfl) ?_
  refine Lg_2 S hinX5 hK hP 0 rfl f18 dX5_forged_1 ?_
  refine lv_iload_n hx hb dX5_forged_4 rfl (lv_at hl 1 rfl) ?_
  obtain ⟨g1, hf⟩ := gd_some hf
  refine va_iald (f := σL.2 2) (n := 12) (cA := cI) hx hb hK hP 3 0 rfl rfl g1 dX5_forged_5 ?_
  refine lv_iconst (v := 5) hx hb dX5_forged_6 (by decide) ?_
  refine lv_icmp_ne (tgt := 14) hx hb dX5_forged_7 (by decide) (fun c2 => ?_) (fun c2 => ?_)
  · have hf := (if_neg c2).symm.trans hf
    refine lv_iconst (v := 0) hx hb dX5_forged_14 (by decide) ?_
    exact hre _ _ _ _ _ hf hP hD hS dX5_forged_15 rfl
  · have hf := (if_pos c2).symm.trans hf
    refine lv_iconst (v := 1) hx hb dX5_forged_10 (by decide) ?_
    refine lv_goto (tgt := 15) hx hb dX5_forged_11 (by decide) ?_
    exact hre _ _ _ _ _ hf hP hD hS dX5_forged_15 rfl
def FL_dumb (σL : MS) (a1 : Int32) : Option Int32 :=
  Option.bind (FL_about σL a1 4) fun (r1 : Int32) => if r1 = 1 then (some (1)) else (some (0))
set_option maxHeartbeats 4000000 in
set_option maxRecDepth 100000 in
theorem kL_dumb (l : Launch) (D : va_G) (uL : Nat → Nat) (cI cB cR cM cJ : ClassId) (t : Nat → Nat) (σL : MS) (a1 : Int32) (r : Int32) (hf : FL_dumb σL a1 = some (r)) : KZ l D (ctys cI cB cR cM cJ) t yX5_dumb wsX5_dumb 1 22 [.ref (uL 0), .int a1] (xL uL cI cB cR cM cJ σL) (some (.int r)) (xL uL cI cB cR cM cJ σL) := by
  refine KZ.ofZ (own := RX5) (cc := cX5_dumb) (maxL := 2) (by decide) rfl rfl (Nat.le_of_ble_eq_true rfl) ?_
  intro p e s m args below meth c R Q A ls S hRf hRl hK hA hP hD hS hl hZ hret
  obtain ⟨hx, hb, hml, hown, hts⟩ := id S
  have hl : lv_has ls 2 [(0, .ref (uL 0)), (1, .int a1)] := hl
  have hre : ∀ (x : Int32) (pc : Nat) (ls : Array Slot) (H : Heap) (locs : List Loc), (some (x) : Option Int32) = some (r) → va_P D vwCl (xL uL cI cB cR cM cJ σL) H → va_D A (xL uL cI cB cR cM cJ σL) → va_S A s.heap H locs → decode cX5_dumb pc = .ok (.ireturn, 1) → narrow .boolean (.int x) = .int x → W p l e R s m args below meth c H locs 0 0 Q (F0 m pc ls [.int x]) := by intro x pc ls H locs he; cases he; exact hret pc ls H locs
  unfold FL_dumb at hf
  refine lv_aload_n hx hb dX5_dumb_0 rfl (lv_at hl 0 rfl) ?_
  refine lv_iload_n hx hb dX5_dumb_1 rfl (lv_at hl 1 rfl) ?_
  refine lv_iconst (v := 4) hx hb dX5_dumb_2 (by decide) ?_
  obtain ⟨r1, hr1, hf⟩ := bi_some hf
  refine kz_v (ci := 4) (q0 := 0) (n := 2) S hRf hRl hK hA hZ hP hD hS hl [0, 1, 2, 3, 4] [.int a1, .int 4] [] (kL_about l D uL cI cB cR cM cJ t σL a1 4 r1 hr1) rfl rfl rfl gX5_dumb_X5_about rfl (by decide +kernel) rfl ⟨by decide, by decide⟩ rfl rfl rfl rfl (Nat.le_of_ble_eq_true rfl) dX5_dumb_3 (fun H locs hP hD hS => ?_)
  replace hP : va_P D vwCl (xL uL cI cB cR cM cJ σL) H := hP
  replace hD : va_D A (xL uL cI cB cR cM cJ σL) := hD
  refine W.eq (g2 := F0 m 6 ls [.int r1]) rfl ?_
  refine lv_iconst (v := 1) hx hb dX5_dumb_6 (by decide) ?_
  refine lv_icmp_ne (tgt := 14) hx hb dX5_dumb_7 (by decide) (fun c2 => ?_) (fun c2 => ?_)
  · have hf := (if_neg c2).symm.trans hf
    refine lv_iconst (v := 0) hx hb dX5_dumb_14 (by decide) ?_
    exact hre _ _ _ _ _ hf hP hD hS dX5_dumb_15 rfl
  · have hf := (if_pos c2).symm.trans hf
    refine lv_iconst (v := 1) hx hb dX5_dumb_10 (by decide) ?_
    refine lv_goto (tgt := 15) hx hb dX5_dumb_11 (by decide) ?_
    exact hre _ _ _ _ _ hf hP hD hS dX5_dumb_15 rfl
def FL_howMany_28 (ag5 : MS → Int32 → Int32 → Int32 → Int32 → Option Int32) (σL : MS) (l1 : Int32) (l2 : Int32) (l3 : Int32) (l4 : Int32) : Option Int32 :=
  nm (l4 + 1) fun (x5 : Int32) => ag5 σL l1 l2 l3 x5
def FL_howMany_5 : Nat → MS → Int32 → Int32 → Int32 → Int32 → Option Int32
  | 0, _, _, _, _, _ => none
  | n + 1, σL, l1, l2, l3, l4 => if (σL.1 7) ≤ l4 then (some (l3)) else (Option.bind (FL_about σL l4 l1) fun (r2 : Int32) => if r2 = l2 then (nm (l3 + 1) fun (x4 : Int32) => FL_howMany_28 (FL_howMany_5 n) σL l1 l2 x4 l4) else (FL_howMany_28 (FL_howMany_5 n) σL l1 l2 l3 l4))
def FL_howMany (σL : MS) (a1 : Int32) (a2 : Int32) : Option Int32 :=
  FL_howMany_5 fuelN σL a1 a2 0 0
set_option maxHeartbeats 4000000 in
set_option maxRecDepth 100000 in
theorem kL_howMany (l : Launch) (D : va_G) (uL : Nat → Nat) (cI cB cR cM cJ : ClassId) (t : Nat → Nat) (σL : MS) (a1 : Int32) (a2 : Int32) (r : Int32) (hf : FL_howMany σL a1 a2 = some (r)) : KZ l D (ctys cI cB cR cM cJ) t yX5_howMany wsX5_howMany 1 22 [.ref (uL 0), .int a1, .int a2] (xL uL cI cB cR cM cJ σL) (some (.int r)) (xL uL cI cB cR cM cJ σL) := by
  refine KZ.ofI (own := RX5) (cc := cX5_howMany) (maxL := 5) (by decide) rfl rfl (Nat.le_of_ble_eq_true rfl) ?_
  intro p e s m args below meth c R Q A ls S hRf hRl hK hA hP hD hS hl hZ hret
  obtain ⟨hx, hb, hml, hown, hts⟩ := id S
  have f35 := hts (.fieldLink RX5 35 "PenniesAway$Realm" "coins" "I") (by decide +kernel)
  have hinX5 : ∀ w ∈ wsX50, w ∈ wsX5_howMany := fun w hw => List.mem_cons_of_mem _ (List.mem_append_right _ hw)
  have hl : lv_has ls 5 [(0, .ref (uL 0)), (1, .int a1), (2, .int a2)] := hl
  have hre : ∀ (x : Int32) (pc : Nat) (ls : Array Slot) (H : Heap) (locs : List Loc), (some (x) : Option Int32) = some (r) → va_P D vwCl (xL uL cI cB cR cM cJ σL) H → va_D A (xL uL cI cB cR cM cJ σL) → va_S A s.heap H locs → decode cX5_howMany pc = .ok (.ireturn, 1) → W p l e R s m args below meth c H locs 0 0 Q (F0 m pc ls [.int x]) := by intro x pc ls H locs he; cases he; exact hret pc ls H locs
  have b28 : ∀ (ag5 : MS → Int32 → Int32 → Int32 → Int32 → Option Int32) (hag5 : ∀ (l1 : Int32) (l2 : Int32) (l3 : Int32) (l4 : Int32) (ls : Array Slot) (H : Heap) (locs : List Loc), ag5 σL l1 l2 l3 l4 = some (r) → lv_has ls 5 [(0, .ref (uL 0)), (1, .int l1), (2, .int l2), (3, .int l3), (4, .int l4)] → va_P D vwCl (xL uL cI cB cR cM cJ σL) H → va_D A (xL uL cI cB cR cM cJ σL) → va_S A s.heap H locs → W p l e R s m args below meth c H locs 0 0 Q (F0 m 5 ls [])), ∀ (l1 : Int32) (l2 : Int32) (l3 : Int32) (l4 : Int32) (ls : Array Slot) (H : Heap) (locs : List Loc), FL_howMany_28 ag5 σL l1 l2 l3 l4 = some (r) → lv_has ls 5 [(0, .ref (uL 0)), (1, .int l1), (2, .int l2), (3, .int l3), (4, .int l4)] → va_P D vwCl (xL uL cI cB cR cM cJ σL) H → va_D A (xL uL cI cB cR cM cJ σL) → va_S A s.heap H locs → W p l e R s m args below meth c H locs 0 0 Q (F0 m 28 ls []) := by
    intro ag5 hag5 l1 l2 l3 l4 ls H locs hf hl hP hD hS
    unfold FL_howMany_28 at hf
    obtain ⟨x5, ex5, hf⟩ := nm_some hf
    refine lv_iinc (v := x5) (lv' := [(4, .int x5), (0, .ref (uL 0)), (1, .int l1), (2, .int l2), (3, .int l3)]) hx hb dX5_howMany_28 hl (k := 4) rfl (by rw [ex5]; rfl) (by decide) rfl (fun ls hl => ?_)
    refine lv_goto (tgt := 5) hx hb dX5_howMany_31 (by decide) ?_
    exact hag5 _ _ _ _ _ _ _ hf (lv_sub hl [1, 2, 3, 4, 0] rfl) hP hD hS
  have b5 : ∀ (n : Nat), ∀ (l1 : Int32) (l2 : Int32) (l3 : Int32) (l4 : Int32) (ls : Array Slot) (H : Heap) (locs : List Loc), FL_howMany_5 n σL l1 l2 l3 l4 = some (r) → lv_has ls 5 [(0, .ref (uL 0)), (1, .int l1), (2, .int l2), (3, .int l3), (4, .int l4)] → va_P D vwCl (xL uL cI cB cR cM cJ σL) H → va_D A (xL uL cI cB cR cM cJ σL) → va_S A s.heap H locs → W p l e R s m args below meth c H locs 0 0 Q (F0 m 5 ls []) := by
    intro n
    induction n with
    | zero => intro l1 l2 l3 l4 ls H locs hf; exact absurd hf (by simp [FL_howMany_5])
    | succ n ih =>
      intro l1 l2 l3 l4 ls H locs hf hl hP hD hS
      rw [FL_howMany_5] at hf
      refine lv_iload hx hb dX5_howMany_5 (lv_at hl 4 rfl) ?_
      refine lv_aload_n hx hb dX5_howMany_7 rfl (lv_at hl 0 rfl) ?_
      refine Lg_7 S hinX5 hK hP 0 rfl f35 dX5_howMany_8 ?_
      refine lv_icmp_ge (tgt := 34) hx hb dX5_howMany_11 (by decide) (fun c1 => ?_) (fun c1 => ?_)
      · have hf := (if_pos c1).symm.trans hf
        refine lv_iload_n hx hb dX5_howMany_34 rfl (lv_at hl 3 rfl) ?_
        exact hre _ _ _ _ _ hf hP hD hS dX5_howMany_35
      · have hf := (if_neg c1).symm.trans hf
        refine lv_aload_n hx hb dX5_howMany_14 rfl (lv_at hl 0 rfl) ?_
        refine lv_iload hx hb dX5_howMany_15 (lv_at hl 4 rfl) ?_
        refine lv_iload_n hx hb dX5_howMany_17 rfl (lv_at hl 1 rfl) ?_
        obtain ⟨r2, hr2, hf⟩ := bi_some hf
        refine kz_v (ci := 4) (q0 := 0) (n := 2) S hRf hRl hK hA hZ hP hD hS hl [0, 1, 2, 3, 4] [.int l4, .int l1] [] (kL_about l D uL cI cB cR cM cJ t σL l4 l1 r2 hr2) rfl rfl rfl gX5_howMany_X5_about rfl (by decide +kernel) rfl ⟨by decide, by decide⟩ rfl rfl rfl rfl (Nat.le_of_ble_eq_true rfl) dX5_howMany_18 (fun H locs hP hD hS => ?_)
        replace hP : va_P D vwCl (xL uL cI cB cR cM cJ σL) H := hP
        replace hD : va_D A (xL uL cI cB cR cM cJ σL) := hD
        refine W.eq (g2 := F0 m 21 ls [.int r2]) rfl ?_
        refine lv_iload_n hx hb dX5_howMany_21 rfl (lv_at hl 2 rfl) ?_
        refine lv_icmp_ne (tgt := 28) hx hb dX5_howMany_22 (by decide) (fun c3 => ?_) (fun c3 => ?_)
        · have hf := (if_neg c3).symm.trans hf
          exact b28 (FL_howMany_5 n) ih _ _ _ _ _ _ _ hf (lv_sub hl [0, 1, 2, 3, 4] rfl) hP hD hS
        · have hf := (if_pos c3).symm.trans hf
          obtain ⟨x4, ex4, hf⟩ := nm_some hf
          refine lv_iinc (v := x4) (lv' := [(3, .int x4), (0, .ref (uL 0)), (1, .int l1), (2, .int l2), (4, .int l4)]) hx hb dX5_howMany_25 hl (k := 3) rfl (by rw [ex4]; rfl) (by decide) rfl (fun ls hl => ?_)
          exact b28 (FL_howMany_5 n) ih _ _ _ _ _ _ _ hf (lv_sub hl [1, 2, 3, 0, 4] rfl) hP hD hS
  unfold FL_howMany at hf
  refine lv_iconst (v := 0) hx hb dX5_howMany_0 (by decide) ?_
  refine lv_istore_n (lv' := [(3, .int 0), (0, .ref (uL 0)), (1, .int a1), (2, .int a2)]) hx hb dX5_howMany_1 rfl hl (by decide) rfl (fun ls hl => ?_)
  refine lv_iconst (v := 0) hx hb dX5_howMany_2 (by decide) ?_
  refine lv_istore (lv' := [(4, .int 0), (3, .int 0), (0, .ref (uL 0)), (1, .int a1), (2, .int a2)]) hx hb dX5_howMany_3 hl (by decide) rfl (fun ls hl => ?_)
  exact b5 fuelN _ _ _ _ _ _ _ hf (lv_sub hl [2, 3, 4, 1, 0] rfl) hP hD hS
def FL_canGoHome (σL : MS) (a1 : Int32) : Option Int32 :=
  Option.bind (FL_withHolder σL a1) fun (r1 : Int32) => if r1 = 0 then (some (0)) else (Option.bind (FL_townOf σL a1) fun (r3 : Int32) => Option.bind (FL_distance σL r3 0) fun (r4 : Int32) => if r4 = (-1000000) then (some (0)) else (some (1)))
set_option maxHeartbeats 4000000 in
set_option maxRecDepth 100000 in
theorem kL_canGoHome (l : Launch) (D : va_G) (uL : Nat → Nat) (cI cB cR cM cJ : ClassId) (t : Nat → Nat) (σL : MS) (a1 : Int32) (r : Int32) (hf : FL_canGoHome σL a1 = some (r)) : KZ l D (ctys cI cB cR cM cJ) t yX5_canGoHome wsX5_canGoHome 2 43 [.ref (uL 0), .int a1] (xL uL cI cB cR cM cJ σL) (some (.int r)) (xL uL cI cB cR cM cJ σL) := by
  refine KZ.ofZ (own := RX5) (cc := cX5_canGoHome) (maxL := 2) (by decide) rfl rfl (Nat.le_of_ble_eq_true rfl) ?_
  intro p e s m args below meth c R Q A ls S hRf hRl hK hA hP hD hS hl hZ hret
  obtain ⟨hx, hb, hml, hown, hts⟩ := id S
  have c61 := hts (.constant RX5 61 (-1000000)) (by decide +kernel)
  have hl : lv_has ls 2 [(0, .ref (uL 0)), (1, .int a1)] := hl
  have hre : ∀ (x : Int32) (pc : Nat) (ls : Array Slot) (H : Heap) (locs : List Loc), (some (x) : Option Int32) = some (r) → va_P D vwCl (xL uL cI cB cR cM cJ σL) H → va_D A (xL uL cI cB cR cM cJ σL) → va_S A s.heap H locs → decode cX5_canGoHome pc = .ok (.ireturn, 1) → narrow .boolean (.int x) = .int x → W p l e R s m args below meth c H locs 0 0 Q (F0 m pc ls [.int x]) := by intro x pc ls H locs he; cases he; exact hret pc ls H locs
  unfold FL_canGoHome at hf
  refine lv_aload_n hx hb dX5_canGoHome_0 rfl (lv_at hl 0 rfl) ?_
  refine lv_iload_n hx hb dX5_canGoHome_1 rfl (lv_at hl 1 rfl) ?_
  obtain ⟨r1, hr1, hf⟩ := bi_some hf
  refine kz_v (ci := 4) (q0 := 0) (n := 1) S hRf hRl hK hA hZ hP hD hS hl [0, 1, 2, 3, 4] [.int a1] [] (kL_withHolder l D uL cI cB cR cM cJ t σL a1 r1 hr1) rfl rfl rfl gX5_canGoHome_X5_withHolder rfl (by decide +kernel) rfl ⟨by decide, by decide⟩ rfl rfl rfl rfl (Nat.le_of_ble_eq_true rfl) dX5_canGoHome_2 (fun H locs hP hD hS => ?_)
  replace hP : va_P D vwCl (xL uL cI cB cR cM cJ σL) H := hP
  replace hD : va_D A (xL uL cI cB cR cM cJ σL) := hD
  refine W.eq (g2 := F0 m 5 ls [.int r1]) rfl ?_
  refine lv_if_eq (tgt := 27) hx hb dX5_canGoHome_5 (by decide) (fun c2 => ?_) (fun c2 => ?_)
  · have hf := (if_pos c2).symm.trans hf
    refine lv_iconst (v := 0) hx hb dX5_canGoHome_27 (by decide) ?_
    exact hre _ _ _ _ _ hf hP hD hS dX5_canGoHome_28 rfl
  · have hf := (if_neg c2).symm.trans hf
    refine lv_aload_n hx hb dX5_canGoHome_8 rfl (lv_at hl 0 rfl) ?_
    refine lv_aload_n hx hb dX5_canGoHome_9 rfl (lv_at hl 0 rfl) ?_
    refine lv_iload_n hx hb dX5_canGoHome_10 rfl (lv_at hl 1 rfl) ?_
    obtain ⟨r3, hr3, hf⟩ := bi_some hf
    refine kz_v (ci := 4) (q0 := 0) (n := 1) S hRf hRl hK hA hZ hP hD hS hl [0, 1, 2, 3, 4] [.int a1] [.ref (uL 0)] (kL_townOf l D uL cI cB cR cM cJ t σL a1 r3 hr3) rfl rfl rfl gX5_canGoHome_X5_townOf rfl (by decide +kernel) rfl ⟨by decide, by decide⟩ rfl rfl rfl rfl (Nat.le_of_ble_eq_true rfl) dX5_canGoHome_11 (fun H locs hP hD hS => ?_)
    replace hP : va_P D vwCl (xL uL cI cB cR cM cJ σL) H := hP
    replace hD : va_D A (xL uL cI cB cR cM cJ σL) := hD
    refine W.eq (g2 := F0 m 14 ls [.int r3, .ref (uL 0)]) rfl ?_
    refine lv_iconst (v := 0) hx hb dX5_canGoHome_14 (by decide) ?_
    obtain ⟨r4, hr4, hf⟩ := bi_some hf
    refine kz_v (ci := 4) (q0 := 0) (n := 2) S hRf hRl hK hA hZ hP hD hS hl [0, 1, 2, 3, 4] [.int r3, .int 0] [] (kL_distance l D uL cI cB cR cM cJ t σL r3 0 r4 hr4) rfl rfl rfl gX5_canGoHome_X5_distance rfl (by decide +kernel) rfl ⟨by decide, by decide⟩ rfl rfl rfl rfl (Nat.le_of_ble_eq_true rfl) dX5_canGoHome_15 (fun H locs hP hD hS => ?_)
    replace hP : va_P D vwCl (xL uL cI cB cR cM cJ σL) H := hP
    replace hD : va_D A (xL uL cI cB cR cM cJ σL) := hD
    refine W.eq (g2 := F0 m 18 ls [.int r4]) rfl ?_
    refine lv_ldc (v := (-1000000)) hx hb hown c61 dX5_canGoHome_18 ?_
    refine lv_icmp_eq (tgt := 27) hx hb dX5_canGoHome_20 (by decide) (fun c5 => ?_) (fun c5 => ?_)
    · have hf := (if_pos c5).symm.trans hf
      refine lv_iconst (v := 0) hx hb dX5_canGoHome_27 (by decide) ?_
      exact hre _ _ _ _ _ hf hP hD hS dX5_canGoHome_28 rfl
    · have hf := (if_neg c5).symm.trans hf
      refine lv_iconst (v := 1) hx hb dX5_canGoHome_23 (by decide) ?_
      refine lv_goto (tgt := 28) hx hb dX5_canGoHome_24 (by decide) ?_
      exact hre _ _ _ _ _ hf hP hD hS dX5_canGoHome_28 rfl
def FL_startHome (σL : MS) (a1 : Int32) : Option (Int32 × MS) :=
  Option.bind (FL_townOf σL a1) fun (r1 : Int32) => Option.bind (FL_distance σL r1 0) fun (r2 : Int32) => Option.bind (FL_put σL a1 2 1) fun (σ4 : MS) => Option.bind (FL_put σ4 a1 3 r2) fun (σ6 : MS) => some (r2, σ6)
set_option maxHeartbeats 4000000 in
set_option maxRecDepth 100000 in
theorem kL_startHome (l : Launch) (D : va_G) (uL : Nat → Nat) (cI cB cR cM cJ : ClassId) (t : Nat → Nat) (σL : MS) (a1 : Int32) (r : Int32) (σL' : MS) (hf : FL_startHome σL a1 = some (r, σL')) : KZ l D (ctys cI cB cR cM cJ) t yX5_startHome wsX5_startHome 2 43 [.ref (uL 0), .int a1] (xL uL cI cB cR cM cJ σL) (some (.int r)) (xL uL cI cB cR cM cJ σL') := by
  refine KZ.ofI (own := RX5) (cc := cX5_startHome) (maxL := 3) (by decide) rfl rfl (Nat.le_of_ble_eq_true rfl) ?_
  intro p e s m args below meth c R Q A ls S hRf hRl hK hA hP hD hS hl hZ hret
  obtain ⟨hx, hb, hml, hown, hts⟩ := id S
  have hl : lv_has ls 3 [(0, .ref (uL 0)), (1, .int a1)] := hl
  have hre : ∀ (x : Int32) (τL : MS) (pc : Nat) (ls : Array Slot) (H : Heap) (locs : List Loc), (some (x, τL) : Option (Int32 × MS)) = some (r, σL') → va_P D vwCl (xL uL cI cB cR cM cJ τL) H → va_D A (xL uL cI cB cR cM cJ τL) → va_S A s.heap H locs → decode cX5_startHome pc = .ok (.ireturn, 1) → W p l e R s m args below meth c H locs 0 0 Q (F0 m pc ls [.int x]) := by intro x τL pc ls H locs he; cases he; exact hret pc ls H locs
  unfold FL_startHome at hf
  refine lv_aload_n hx hb dX5_startHome_0 rfl (lv_at hl 0 rfl) ?_
  refine lv_aload_n hx hb dX5_startHome_1 rfl (lv_at hl 0 rfl) ?_
  refine lv_iload_n hx hb dX5_startHome_2 rfl (lv_at hl 1 rfl) ?_
  obtain ⟨r1, hr1, hf⟩ := bi_some hf
  refine kz_v (ci := 4) (q0 := 0) (n := 1) S hRf hRl hK hA hZ hP hD hS hl [0, 1, 2, 3, 4] [.int a1] [.ref (uL 0)] (kL_townOf l D uL cI cB cR cM cJ t σL a1 r1 hr1) rfl rfl rfl gX5_startHome_X5_townOf rfl (by decide +kernel) rfl ⟨by decide, by decide⟩ rfl rfl rfl rfl (Nat.le_of_ble_eq_true rfl) dX5_startHome_3 (fun H locs hP hD hS => ?_)
  replace hP : va_P D vwCl (xL uL cI cB cR cM cJ σL) H := hP
  replace hD : va_D A (xL uL cI cB cR cM cJ σL) := hD
  refine W.eq (g2 := F0 m 6 ls [.int r1, .ref (uL 0)]) rfl ?_
  refine lv_iconst (v := 0) hx hb dX5_startHome_6 (by decide) ?_
  obtain ⟨r2, hr2, hf⟩ := bi_some hf
  refine kz_v (ci := 4) (q0 := 0) (n := 2) S hRf hRl hK hA hZ hP hD hS hl [0, 1, 2, 3, 4] [.int r1, .int 0] [] (kL_distance l D uL cI cB cR cM cJ t σL r1 0 r2 hr2) rfl rfl rfl gX5_startHome_X5_distance rfl (by decide +kernel) rfl ⟨by decide, by decide⟩ rfl rfl rfl rfl (Nat.le_of_ble_eq_true rfl) dX5_startHome_7 (fun H locs hP hD hS => ?_)
  replace hP : va_P D vwCl (xL uL cI cB cR cM cJ σL) H := hP
  replace hD : va_D A (xL uL cI cB cR cM cJ σL) := hD
  refine W.eq (g2 := F0 m 10 ls [.int r2]) rfl ?_
  refine lv_istore_n (lv' := [(2, .int r2), (0, .ref (uL 0)), (1, .int a1)]) hx hb dX5_startHome_10 rfl hl (by decide) rfl (fun ls hl => ?_)
  refine lv_aload_n hx hb dX5_startHome_11 rfl (lv_at hl 1 rfl) ?_
  refine lv_iload_n hx hb dX5_startHome_12 rfl (lv_at hl 2 rfl) ?_
  refine lv_iconst (v := 2) hx hb dX5_startHome_13 (by decide) ?_
  refine lv_iconst (v := 1) hx hb dX5_startHome_14 (by decide) ?_
  obtain ⟨σ4, hr3, hf⟩ := bi_some hf
  refine kz_v (ci := 4) (q0 := 0) (n := 3) S hRf hRl hK hA hZ hP hD hS hl [0, 1, 2, 3, 4] [.int a1, .int 2, .int 1] [] (kL_put l D uL cI cB cR cM cJ t σL a1 2 1 σ4 hr3) rfl rfl rfl gX5_startHome_X5_put rfl (by decide +kernel) rfl ⟨by decide, by decide⟩ rfl rfl rfl rfl (Nat.le_of_ble_eq_true rfl) dX5_startHome_15 (fun H locs hP hD hS => ?_)
  replace hP : va_P D vwCl (xL uL cI cB cR cM cJ σ4) H := hP
  replace hD : va_D A (xL uL cI cB cR cM cJ σ4) := hD
  refine W.eq (g2 := F0 m 18 ls []) rfl ?_
  refine lv_aload_n hx hb dX5_startHome_18 rfl (lv_at hl 1 rfl) ?_
  refine lv_iload_n hx hb dX5_startHome_19 rfl (lv_at hl 2 rfl) ?_
  refine lv_iconst (v := 3) hx hb dX5_startHome_20 (by decide) ?_
  refine lv_iload_n hx hb dX5_startHome_21 rfl (lv_at hl 0 rfl) ?_
  obtain ⟨σ6, hr5, hf⟩ := bi_some hf
  refine kz_v (ci := 4) (q0 := 0) (n := 3) S hRf hRl hK hA hZ hP hD hS hl [0, 1, 2, 3, 4] [.int a1, .int 3, .int r2] [] (kL_put l D uL cI cB cR cM cJ t σ4 a1 3 r2 σ6 hr5) rfl rfl rfl gX5_startHome_X5_put rfl (by decide +kernel) rfl ⟨by decide, by decide⟩ rfl rfl rfl rfl (Nat.le_of_ble_eq_true rfl) dX5_startHome_22 (fun H locs hP hD hS => ?_)
  replace hP : va_P D vwCl (xL uL cI cB cR cM cJ σ6) H := hP
  replace hD : va_D A (xL uL cI cB cR cM cJ σ6) := hD
  refine W.eq (g2 := F0 m 25 ls []) rfl ?_
  refine lv_iload_n hx hb dX5_startHome_25 rfl (lv_at hl 0 rfl) ?_
  exact hre _ _ _ _ _ _ hf hP hD hS dX5_startHome_26
def FL_travel_60 (σL : MS) (l1 : Int32) : Option MS :=
  Option.bind (FL_put σL l1 2 3) fun (σ23 : MS) => some (σ23)
def FL_travel (σL : MS) (a1 : Int32) : Option MS :=
  Option.bind (FL_about σL a1 3) fun (r1 : Int32) => Option.bind (FL_put σL a1 3 (r1 - 1)) fun (σ3 : MS) => Option.bind (FL_about σ3 a1 3) fun (r4 : Int32) => if r4 ≤ 0 then (Option.bind (FL_about σ3 a1 2) fun (r6 : Int32) => if r6 = 2 then (Option.bind (FL_put σ3 a1 2 0) fun (σ21 : MS) => some (σ21)) else (Option.bind (FL_dumb σ3 a1) fun (r8 : Int32) => if r8 = 0 then (Option.bind (FL_forged σ3 a1) fun (r10 : Int32) => if r10 = 0 then (Option.bind (FL_put σ3 a1 1 0) fun (σ13 : MS) => Option.bind (FL_put σ13 a1 2 2) fun (σ15 : MS) => Option.bind (FL_townOf σ15 a1) fun (r16 : Int32) => Option.bind (FL_distance σ15 0 r16) fun (r17 : Int32) => Option.bind (FL_put σ15 a1 3 r17) fun (σ19 : MS) => some (σ19)) else (FL_travel_60 σ3 a1)) else (FL_travel_60 σ3 a1))) else (some (σ3))
set_option maxHeartbeats 4000000 in
set_option maxRecDepth 100000 in
theorem kL_travel (l : Launch) (D : va_G) (uL : Nat → Nat) (cI cB cR cM cJ : ClassId) (t : Nat → Nat) (σL : MS) (a1 : Int32) (σL' : MS) (hf : FL_travel σL a1 = some (σL')) : KZ l D (ctys cI cB cR cM cJ) t yX5_travel wsX5_travel 2 43 [.ref (uL 0), .int a1] (xL uL cI cB cR cM cJ σL) none (xL uL cI cB cR cM cJ σL') := by
  refine KZ.ofV (own := RX5) (cc := cX5_travel) (maxL := 2) (by decide) rfl rfl (Nat.le_of_ble_eq_true rfl) ?_
  intro p e s m args below meth c R Q A ls S hRf hRl hK hA hP hD hS hl hZ hret
  obtain ⟨hx, hb, hml, hown, hts⟩ := id S
  have hl : lv_has ls 2 [(0, .ref (uL 0)), (1, .int a1)] := hl
  have hre : ∀ (τL : MS) (pc : Nat) (ls : Array Slot) (H : Heap) (locs : List Loc), (some (τL) : Option MS) = some (σL') → va_P D vwCl (xL uL cI cB cR cM cJ τL) H → va_D A (xL uL cI cB cR cM cJ τL) → va_S A s.heap H locs → decode cX5_travel pc = .ok (.return_, 1) → W p l e R s m args below meth c H locs 0 0 Q (F0 m pc ls []) := by intro τL pc ls H locs he; cases he; exact hret pc ls H locs
  have b60 : ∀ (σL : MS) (l1 : Int32) (ls : Array Slot) (H : Heap) (locs : List Loc), FL_travel_60 σL l1 = some (σL') → lv_has ls 2 [(0, .ref (uL 0)), (1, .int l1)] → va_P D vwCl (xL uL cI cB cR cM cJ σL) H → va_D A (xL uL cI cB cR cM cJ σL) → va_S A s.heap H locs → W p l e R s m args below meth c H locs 0 0 Q (F0 m 60 ls []) := by
    intro σL l1 ls H locs hf hl hP hD hS
    unfold FL_travel_60 at hf
    refine lv_aload_n hx hb dX5_travel_60 rfl (lv_at hl 0 rfl) ?_
    refine lv_iload_n hx hb dX5_travel_61 rfl (lv_at hl 1 rfl) ?_
    refine lv_iconst (v := 2) hx hb dX5_travel_62 (by decide) ?_
    refine lv_iconst (v := 3) hx hb dX5_travel_63 (by decide) ?_
    obtain ⟨σ23, hr22, hf⟩ := bi_some hf
    refine kz_v (ci := 4) (q0 := 0) (n := 3) S hRf hRl hK hA hZ hP hD hS hl [0, 1, 2, 3, 4] [.int l1, .int 2, .int 3] [] (kL_put l D uL cI cB cR cM cJ t σL l1 2 3 σ23 hr22) rfl rfl rfl gX5_travel_X5_put rfl (by decide +kernel) rfl ⟨by decide, by decide⟩ rfl rfl rfl rfl (Nat.le_of_ble_eq_true rfl) dX5_travel_64 (fun H locs hP hD hS => ?_)
    replace hP : va_P D vwCl (xL uL cI cB cR cM cJ σ23) H := hP
    replace hD : va_D A (xL uL cI cB cR cM cJ σ23) := hD
    refine W.eq (g2 := F0 m 67 ls []) rfl ?_
    refine lv_goto (tgt := 100) hx hb dX5_travel_67 (by decide) ?_
    exact hre _ _ _ _ _ hf hP hD hS dX5_travel_100
  unfold FL_travel at hf
  refine lv_aload_n hx hb dX5_travel_0 rfl (lv_at hl 0 rfl) ?_
  refine lv_iload_n hx hb dX5_travel_1 rfl (lv_at hl 1 rfl) ?_
  refine lv_iconst (v := 3) hx hb dX5_travel_2 (by decide) ?_
  refine lv_aload_n hx hb dX5_travel_3 rfl (lv_at hl 0 rfl) ?_
  refine lv_iload_n hx hb dX5_travel_4 rfl (lv_at hl 1 rfl) ?_
  refine lv_iconst (v := 3) hx hb dX5_travel_5 (by decide) ?_
  obtain ⟨r1, hr1, hf⟩ := bi_some hf
  refine kz_v (ci := 4) (q0 := 0) (n := 2) S hRf hRl hK hA hZ hP hD hS hl [0, 1, 2, 3, 4] [.int a1, .int 3] [.int 3, .int a1, .ref (uL 0)] (kL_about l D uL cI cB cR cM cJ t σL a1 3 r1 hr1) rfl rfl rfl gX5_travel_X5_about rfl (by decide +kernel) rfl ⟨by decide, by decide⟩ rfl rfl rfl rfl (Nat.le_of_ble_eq_true rfl) dX5_travel_6 (fun H locs hP hD hS => ?_)
  replace hP : va_P D vwCl (xL uL cI cB cR cM cJ σL) H := hP
  replace hD : va_D A (xL uL cI cB cR cM cJ σL) := hD
  refine W.eq (g2 := F0 m 9 ls [.int r1, .int 3, .int a1, .ref (uL 0)]) rfl ?_
  refine lv_iconst (v := 1) hx hb dX5_travel_9 (by decide) ?_
  refine lv_isub hx hb dX5_travel_10 ?_
  obtain ⟨σ3, hr2, hf⟩ := bi_some hf
  refine kz_v (ci := 4) (q0 := 0) (n := 3) S hRf hRl hK hA hZ hP hD hS hl [0, 1, 2, 3, 4] [.int a1, .int 3, .int (r1 - 1)] [] (kL_put l D uL cI cB cR cM cJ t σL a1 3 (r1 - 1) σ3 hr2) rfl rfl rfl gX5_travel_X5_put rfl (by decide +kernel) rfl ⟨by decide, by decide⟩ rfl rfl rfl rfl (Nat.le_of_ble_eq_true rfl) dX5_travel_11 (fun H locs hP hD hS => ?_)
  replace hP : va_P D vwCl (xL uL cI cB cR cM cJ σ3) H := hP
  replace hD : va_D A (xL uL cI cB cR cM cJ σ3) := hD
  refine W.eq (g2 := F0 m 14 ls []) rfl ?_
  refine lv_aload_n hx hb dX5_travel_14 rfl (lv_at hl 0 rfl) ?_
  refine lv_iload_n hx hb dX5_travel_15 rfl (lv_at hl 1 rfl) ?_
  refine lv_iconst (v := 3) hx hb dX5_travel_16 (by decide) ?_
  obtain ⟨r4, hr4, hf⟩ := bi_some hf
  refine kz_v (ci := 4) (q0 := 0) (n := 2) S hRf hRl hK hA hZ hP hD hS hl [0, 1, 2, 3, 4] [.int a1, .int 3] [] (kL_about l D uL cI cB cR cM cJ t σ3 a1 3 r4 hr4) rfl rfl rfl gX5_travel_X5_about rfl (by decide +kernel) rfl ⟨by decide, by decide⟩ rfl rfl rfl rfl (Nat.le_of_ble_eq_true rfl) dX5_travel_17 (fun H locs hP hD hS => ?_)
  replace hP : va_P D vwCl (xL uL cI cB cR cM cJ σ3) H := hP
  replace hD : va_D A (xL uL cI cB cR cM cJ σ3) := hD
  refine W.eq (g2 := F0 m 20 ls [.int r4]) rfl ?_
  refine lv_if_le (tgt := 24) hx hb dX5_travel_20 (by decide) (fun c5 => ?_) (fun c5 => ?_)
  · have hf := (if_pos c5).symm.trans hf
    refine lv_aload_n hx hb dX5_travel_24 rfl (lv_at hl 0 rfl) ?_
    refine lv_iload_n hx hb dX5_travel_25 rfl (lv_at hl 1 rfl) ?_
    refine lv_iconst (v := 2) hx hb dX5_travel_26 (by decide) ?_
    obtain ⟨r6, hr6, hf⟩ := bi_some hf
    refine kz_v (ci := 4) (q0 := 0) (n := 2) S hRf hRl hK hA hZ hP hD hS hl [0, 1, 2, 3, 4] [.int a1, .int 2] [] (kL_about l D uL cI cB cR cM cJ t σ3 a1 2 r6 hr6) rfl rfl rfl gX5_travel_X5_about rfl (by decide +kernel) rfl ⟨by decide, by decide⟩ rfl rfl rfl rfl (Nat.le_of_ble_eq_true rfl) dX5_travel_27 (fun H locs hP hD hS => ?_)
    replace hP : va_P D vwCl (xL uL cI cB cR cM cJ σ3) H := hP
    replace hD : va_D A (xL uL cI cB cR cM cJ σ3) := hD
    refine W.eq (g2 := F0 m 30 ls [.int r6]) rfl ?_
    refine lv_iconst (v := 2) hx hb dX5_travel_30 (by decide) ?_
    refine lv_icmp_ne (tgt := 44) hx hb dX5_travel_31 (by decide) (fun c7 => ?_) (fun c7 => ?_)
    · have hf := (if_neg c7).symm.trans hf
      refine lv_aload_n hx hb dX5_travel_44 rfl (lv_at hl 0 rfl) ?_
      refine lv_iload_n hx hb dX5_travel_45 rfl (lv_at hl 1 rfl) ?_
      obtain ⟨r8, hr8, hf⟩ := bi_some hf
      refine kz_v (ci := 4) (q0 := 0) (n := 1) S hRf hRl hK hA hZ hP hD hS hl [0, 1, 2, 3, 4] [.int a1] [] (kL_dumb l D uL cI cB cR cM cJ t σ3 a1 r8 hr8) rfl rfl rfl gX5_travel_X5_dumb rfl (by decide +kernel) rfl ⟨by decide, by decide⟩ rfl rfl rfl rfl (Nat.le_of_ble_eq_true rfl) dX5_travel_46 (fun H locs hP hD hS => ?_)
      replace hP : va_P D vwCl (xL uL cI cB cR cM cJ σ3) H := hP
      replace hD : va_D A (xL uL cI cB cR cM cJ σ3) := hD
      refine W.eq (g2 := F0 m 49 ls [.int r8]) rfl ?_
      refine lv_if_ne (tgt := 60) hx hb dX5_travel_49 (by decide) (fun c9 => ?_) (fun c9 => ?_)
      · have hf := (if_neg c9).symm.trans hf
        exact b60 _ _ _ _ _ hf (lv_sub hl [0, 1] rfl) hP hD hS
      · have hf := (if_pos c9).symm.trans hf
        refine lv_aload_n hx hb dX5_travel_52 rfl (lv_at hl 0 rfl) ?_
        refine lv_iload_n hx hb dX5_travel_53 rfl (lv_at hl 1 rfl) ?_
        obtain ⟨r10, hr10, hf⟩ := bi_some hf
        refine kz_v (ci := 4) (q0 := 0) (n := 1) S hRf hRl hK hA hZ hP hD hS hl [0, 1, 2, 3, 4] [.int a1] [] (kL_forged l D uL cI cB cR cM cJ t σ3 a1 r10 hr10) rfl rfl rfl gX5_travel_X5_forged rfl (by decide +kernel) rfl ⟨by decide, by decide⟩ rfl rfl rfl rfl (Nat.le_of_ble_eq_true rfl) dX5_travel_54 (fun H locs hP hD hS => ?_)
        replace hP : va_P D vwCl (xL uL cI cB cR cM cJ σ3) H := hP
        replace hD : va_D A (xL uL cI cB cR cM cJ σ3) := hD
        refine W.eq (g2 := F0 m 57 ls [.int r10]) rfl ?_
        refine lv_if_eq (tgt := 70) hx hb dX5_travel_57 (by decide) (fun c11 => ?_) (fun c11 => ?_)
        · have hf := (if_pos c11).symm.trans hf
          refine lv_aload_n hx hb dX5_travel_70 rfl (lv_at hl 0 rfl) ?_
          refine lv_iload_n hx hb dX5_travel_71 rfl (lv_at hl 1 rfl) ?_
          refine lv_iconst (v := 1) hx hb dX5_travel_72 (by decide) ?_
          refine lv_iconst (v := 0) hx hb dX5_travel_73 (by decide) ?_
          obtain ⟨σ13, hr12, hf⟩ := bi_some hf
          refine kz_v (ci := 4) (q0 := 0) (n := 3) S hRf hRl hK hA hZ hP hD hS hl [0, 1, 2, 3, 4] [.int a1, .int 1, .int 0] [] (kL_put l D uL cI cB cR cM cJ t σ3 a1 1 0 σ13 hr12) rfl rfl rfl gX5_travel_X5_put rfl (by decide +kernel) rfl ⟨by decide, by decide⟩ rfl rfl rfl rfl (Nat.le_of_ble_eq_true rfl) dX5_travel_74 (fun H locs hP hD hS => ?_)
          replace hP : va_P D vwCl (xL uL cI cB cR cM cJ σ13) H := hP
          replace hD : va_D A (xL uL cI cB cR cM cJ σ13) := hD
          refine W.eq (g2 := F0 m 77 ls []) rfl ?_
          refine lv_aload_n hx hb dX5_travel_77 rfl (lv_at hl 0 rfl) ?_
          refine lv_iload_n hx hb dX5_travel_78 rfl (lv_at hl 1 rfl) ?_
          refine lv_iconst (v := 2) hx hb dX5_travel_79 (by decide) ?_
          refine lv_iconst (v := 2) hx hb dX5_travel_80 (by decide) ?_
          obtain ⟨σ15, hr14, hf⟩ := bi_some hf
          refine kz_v (ci := 4) (q0 := 0) (n := 3) S hRf hRl hK hA hZ hP hD hS hl [0, 1, 2, 3, 4] [.int a1, .int 2, .int 2] [] (kL_put l D uL cI cB cR cM cJ t σ13 a1 2 2 σ15 hr14) rfl rfl rfl gX5_travel_X5_put rfl (by decide +kernel) rfl ⟨by decide, by decide⟩ rfl rfl rfl rfl (Nat.le_of_ble_eq_true rfl) dX5_travel_81 (fun H locs hP hD hS => ?_)
          replace hP : va_P D vwCl (xL uL cI cB cR cM cJ σ15) H := hP
          replace hD : va_D A (xL uL cI cB cR cM cJ σ15) := hD
          refine W.eq (g2 := F0 m 84 ls []) rfl ?_
          refine lv_aload_n hx hb dX5_travel_84 rfl (lv_at hl 0 rfl) ?_
          refine lv_iload_n hx hb dX5_travel_85 rfl (lv_at hl 1 rfl) ?_
          refine lv_iconst (v := 3) hx hb dX5_travel_86 (by decide) ?_
          refine lv_aload_n hx hb dX5_travel_87 rfl (lv_at hl 0 rfl) ?_
          refine lv_iconst (v := 0) hx hb dX5_travel_88 (by decide) ?_
          refine lv_aload_n hx hb dX5_travel_89 rfl (lv_at hl 0 rfl) ?_
          refine lv_iload_n hx hb dX5_travel_90 rfl (lv_at hl 1 rfl) ?_
          obtain ⟨r16, hr16, hf⟩ := bi_some hf
          refine kz_v (ci := 4) (q0 := 0) (n := 1) S hRf hRl hK hA hZ hP hD hS hl [0, 1, 2, 3, 4] [.int a1] [.int 0, .ref (uL 0), .int 3, .int a1, .ref (uL 0)] (kL_townOf l D uL cI cB cR cM cJ t σ15 a1 r16 hr16) rfl rfl rfl gX5_travel_X5_townOf rfl (by decide +kernel) rfl ⟨by decide, by decide⟩ rfl rfl rfl rfl (Nat.le_of_ble_eq_true rfl) dX5_travel_91 (fun H locs hP hD hS => ?_)
          replace hP : va_P D vwCl (xL uL cI cB cR cM cJ σ15) H := hP
          replace hD : va_D A (xL uL cI cB cR cM cJ σ15) := hD
          refine W.eq (g2 := F0 m 94 ls [.int r16, .int 0, .ref (uL 0), .int 3, .int a1, .ref (uL 0)]) rfl ?_
          obtain ⟨r17, hr17, hf⟩ := bi_some hf
          refine kz_v (ci := 4) (q0 := 0) (n := 2) S hRf hRl hK hA hZ hP hD hS hl [0, 1, 2, 3, 4] [.int 0, .int r16] [.int 3, .int a1, .ref (uL 0)] (kL_distance l D uL cI cB cR cM cJ t σ15 0 r16 r17 hr17) rfl rfl rfl gX5_travel_X5_distance rfl (by decide +kernel) rfl ⟨by decide, by decide⟩ rfl rfl rfl rfl (Nat.le_of_ble_eq_true rfl) dX5_travel_94 (fun H locs hP hD hS => ?_)
          replace hP : va_P D vwCl (xL uL cI cB cR cM cJ σ15) H := hP
          replace hD : va_D A (xL uL cI cB cR cM cJ σ15) := hD
          refine W.eq (g2 := F0 m 97 ls [.int r17, .int 3, .int a1, .ref (uL 0)]) rfl ?_
          obtain ⟨σ19, hr18, hf⟩ := bi_some hf
          refine kz_v (ci := 4) (q0 := 0) (n := 3) S hRf hRl hK hA hZ hP hD hS hl [0, 1, 2, 3, 4] [.int a1, .int 3, .int r17] [] (kL_put l D uL cI cB cR cM cJ t σ15 a1 3 r17 σ19 hr18) rfl rfl rfl gX5_travel_X5_put rfl (by decide +kernel) rfl ⟨by decide, by decide⟩ rfl rfl rfl rfl (Nat.le_of_ble_eq_true rfl) dX5_travel_97 (fun H locs hP hD hS => ?_)
          replace hP : va_P D vwCl (xL uL cI cB cR cM cJ σ19) H := hP
          replace hD : va_D A (xL uL cI cB cR cM cJ σ19) := hD
          refine W.eq (g2 := F0 m 100 ls []) rfl ?_
          exact hre _ _ _ _ _ hf hP hD hS dX5_travel_100
        · have hf := (if_neg c11).symm.trans hf
          exact b60 _ _ _ _ _ hf (lv_sub hl [0, 1] rfl) hP hD hS
    · have hf := (if_pos c7).symm.trans hf
      refine lv_aload_n hx hb dX5_travel_34 rfl (lv_at hl 0 rfl) ?_
      refine lv_iload_n hx hb dX5_travel_35 rfl (lv_at hl 1 rfl) ?_
      refine lv_iconst (v := 2) hx hb dX5_travel_36 (by decide) ?_
      refine lv_iconst (v := 0) hx hb dX5_travel_37 (by decide) ?_
      obtain ⟨σ21, hr20, hf⟩ := bi_some hf
      refine kz_v (ci := 4) (q0 := 0) (n := 3) S hRf hRl hK hA hZ hP hD hS hl [0, 1, 2, 3, 4] [.int a1, .int 2, .int 0] [] (kL_put l D uL cI cB cR cM cJ t σ3 a1 2 0 σ21 hr20) rfl rfl rfl gX5_travel_X5_put rfl (by decide +kernel) rfl ⟨by decide, by decide⟩ rfl rfl rfl rfl (Nat.le_of_ble_eq_true rfl) dX5_travel_38 (fun H locs hP hD hS => ?_)
      replace hP : va_P D vwCl (xL uL cI cB cR cM cJ σ21) H := hP
      replace hD : va_D A (xL uL cI cB cR cM cJ σ21) := hD
      refine W.eq (g2 := F0 m 41 ls []) rfl ?_
      refine lv_goto (tgt := 100) hx hb dX5_travel_41 (by decide) ?_
      exact hre _ _ _ _ _ hf hP hD hS dX5_travel_100
  · have hf := (if_neg c5).symm.trans hf
    exact hre _ _ _ _ _ hf hP hD hS dX5_travel_23
def FL_spanOf (σL : MS) (a1 : Int32) : Option Int32 :=
  gd (¬ ((a1 : Int32) < 0 ∨ 12 ≤ Int32.toNatClampNeg a1)) (if (σL.2 2 (Int32.toNatClampNeg a1)) = 4 then (gd (¬ (2 : Int32) = 0) (some (((σL.1 5) / 2)))) else (gd (¬ ((a1 : Int32) < 0 ∨ 12 ≤ Int32.toNatClampNeg a1)) (if (σL.2 2 (Int32.toNatClampNeg a1)) = 2 then (gd (¬ (2 : Int32) = 0) (some (((σL.1 5) + ((σL.1 5) / 2))))) else (some ((σL.1 5))))))
set_option maxHeartbeats 4000000 in
set_option maxRecDepth 100000 in
theorem kL_spanOf (l : Launch) (D : va_G) (uL : Nat → Nat) (cI cB cR cM cJ : ClassId) (t : Nat → Nat) (σL : MS) (a1 : Int32) (r : Int32) (hf : FL_spanOf σL a1 = some (r)) : KZ l D (ctys cI cB cR cM cJ) t yX5_spanOf wsX5_spanOf 0 0 [.ref (uL 0), .int a1] (xL uL cI cB cR cM cJ σL) (some (.int r)) (xL uL cI cB cR cM cJ σL) := by
  refine KZ.ofI (own := RX5) (cc := cX5_spanOf) (maxL := 2) (by decide) rfl rfl (Nat.le_of_ble_eq_true rfl) ?_
  intro p e s m args below meth c R Q A ls S hRf hRl hK hA hP hD hS hl hZ hret
  obtain ⟨hx, hb, hml, hown, hts⟩ := id S
  have f18 := hts (.fieldLink RX5 18 "PenniesAway$Realm" "kinds" "[I") (by decide +kernel)
  have hinX5 : ∀ w ∈ wsX50, w ∈ wsX5_spanOf := fun w hw => List.mem_cons_of_mem _ (List.mem_append_right _ hw)
  have f28 := hts (.fieldLink RX5 28 "PenniesAway$Realm" "leave" "I") (by decide +kernel)
  have hl : lv_has ls 2 [(0, .ref (uL 0)), (1, .int a1)] := hl
  have hre : ∀ (x : Int32) (pc : Nat) (ls : Array Slot) (H : Heap) (locs : List Loc), (some (x) : Option Int32) = some (r) → va_P D vwCl (xL uL cI cB cR cM cJ σL) H → va_D A (xL uL cI cB cR cM cJ σL) → va_S A s.heap H locs → decode cX5_spanOf pc = .ok (.ireturn, 1) → W p l e R s m args below meth c H locs 0 0 Q (F0 m pc ls [.int x]) := by intro x pc ls H locs he; cases he; exact hret pc ls H locs
  unfold FL_spanOf at hf
  refine lv_aload_n hx hb dX5_spanOf_0 rfl (lv_at hl 0 rfl) ?_
  refine Lg_2 S hinX5 hK hP 0 rfl f18 dX5_spanOf_1 ?_
  refine lv_iload_n hx hb dX5_spanOf_4 rfl (lv_at hl 1 rfl) ?_
  obtain ⟨g1, hf⟩ := gd_some hf
  refine va_iald (f := σL.2 2) (n := 12) (cA := cI) hx hb hK hP 3 0 rfl rfl g1 dX5_spanOf_5 ?_
  refine lv_iconst (v := 4) hx hb dX5_spanOf_6 (by decide) ?_
  refine lv_icmp_ne (tgt := 17) hx hb dX5_spanOf_7 (by decide) (fun c2 => ?_) (fun c2 => ?_)
  · have hf := (if_neg c2).symm.trans hf
    refine lv_aload_n hx hb dX5_spanOf_17 rfl (lv_at hl 0 rfl) ?_
    refine Lg_2 S hinX5 hK hP 0 rfl f18 dX5_spanOf_18 ?_
    refine lv_iload_n hx hb dX5_spanOf_21 rfl (lv_at hl 1 rfl) ?_
    obtain ⟨g3, hf⟩ := gd_some hf
    refine va_iald (f := σL.2 2) (n := 12) (cA := cI) hx hb hK hP 3 0 rfl rfl g3 dX5_spanOf_22 ?_
    refine lv_iconst (v := 2) hx hb dX5_spanOf_23 (by decide) ?_
    refine lv_icmp_ne (tgt := 41) hx hb dX5_spanOf_24 (by decide) (fun c4 => ?_) (fun c4 => ?_)
    · have hf := (if_neg c4).symm.trans hf
      refine lv_aload_n hx hb dX5_spanOf_41 rfl (lv_at hl 0 rfl) ?_
      refine Lg_5 S hinX5 hK hP 0 rfl f28 dX5_spanOf_42 ?_
      exact hre _ _ _ _ _ hf hP hD hS dX5_spanOf_45
    · have hf := (if_pos c4).symm.trans hf
      refine lv_aload_n hx hb dX5_spanOf_27 rfl (lv_at hl 0 rfl) ?_
      refine Lg_5 S hinX5 hK hP 0 rfl f28 dX5_spanOf_28 ?_
      refine lv_aload_n hx hb dX5_spanOf_31 rfl (lv_at hl 0 rfl) ?_
      refine Lg_5 S hinX5 hK hP 0 rfl f28 dX5_spanOf_32 ?_
      refine lv_iconst (v := 2) hx hb dX5_spanOf_35 (by decide) ?_
      obtain ⟨g5, hf⟩ := gd_some hf
      refine lv_idiv hx hb dX5_spanOf_36 g5 ?_
      refine lv_iadd hx hb dX5_spanOf_37 ?_
      refine lv_goto (tgt := 45) hx hb dX5_spanOf_38 (by decide) ?_
      exact hre _ _ _ _ _ hf hP hD hS dX5_spanOf_45
  · have hf := (if_pos c2).symm.trans hf
    refine lv_aload_n hx hb dX5_spanOf_10 rfl (lv_at hl 0 rfl) ?_
    refine Lg_5 S hinX5 hK hP 0 rfl f28 dX5_spanOf_11 ?_
    refine lv_iconst (v := 2) hx hb dX5_spanOf_14 (by decide) ?_
    obtain ⟨g6, hf⟩ := gd_some hf
    refine lv_idiv hx hb dX5_spanOf_15 g6 ?_
    exact hre _ _ _ _ _ hf hP hD hS dX5_spanOf_16
def FL_liveDay_111 (ag15 : MS → Int32 → Int32 → Option (Int32 × MS)) (σL : MS) (l1 : Int32) (l2 : Int32) : Option (Int32 × MS) :=
  nm (l2 + 1) fun (x26 : Int32) => ag15 σL l1 x26
def FL_liveDay_68 (ag15 : MS → Int32 → Int32 → Option (Int32 × MS)) (σL : MS) (l1 : Int32) (l2 : Int32) : Option (Int32 × MS) :=
  Option.bind (FL_dumb σL l2) fun (r16 : Int32) => if r16 = 0 then (Option.bind (FL_forged σL l2) fun (r18 : Int32) => if r18 = 0 then (Option.bind (FL_about σL l2 1) fun (r20 : Int32) => Option.bind (FL_spanOf σL l2) fun (r21 : Int32) => if r20 ≤ r21 then (FL_liveDay_111 ag15 σL l1 l2) else (Option.bind (FL_put σL l2 4 1) fun (σ24 : MS) => nm (l1 ||| (1 <<< (l2 &&& 31))) fun (x25 : Int32) => FL_liveDay_111 ag15 σ24 x25 l2)) else (FL_liveDay_111 ag15 σL l1 l2)) else (FL_liveDay_111 ag15 σL l1 l2)
def FL_liveDay_55 (ag15 : MS → Int32 → Int32 → Option (Int32 × MS)) (σL : MS) (l1 : Int32) (l2 : Int32) : Option (Int32 × MS) :=
  Option.bind (FL_underWay σL l2) fun (r12 : Int32) => if r12 = 0 then (FL_liveDay_68 ag15 σL l1 l2) else (Option.bind (FL_travel σL l2) fun (σ15 : MS) => FL_liveDay_68 ag15 σ15 l1 l2)
def FL_liveDay_15 : Nat → MS → Int32 → Int32 → Option (Int32 × MS)
  | 0, _, _, _ => none
  | n + 1, σL, l1, l2 => if (σL.1 7) ≤ l2 then (some (l1, σL)) else (Option.bind (FL_dumb σL l2) fun (r5 : Int32) => if r5 = 0 then (Option.bind (FL_about σL l2 2) fun (r7 : Int32) => if r7 = 3 then (FL_liveDay_55 (FL_liveDay_15 n) σL l1 l2) else (Option.bind (FL_about σL l2 1) fun (r9 : Int32) => Option.bind (FL_put σL l2 1 (r9 + 1)) fun (σ11 : MS) => FL_liveDay_55 (FL_liveDay_15 n) σ11 l1 l2)) else (FL_liveDay_55 (FL_liveDay_15 n) σL l1 l2))
def FL_liveDay (σL : MS) : Option (Int32 × MS) :=
  gd (¬ ((60 : Int32) < 0 ∨ 61 ≤ Int32.toNatClampNeg 60)) (gd (¬ ((60 : Int32) < 0 ∨ 61 ≤ Int32.toNatClampNeg 60)) (nm (setA σL 3 (Int32.toNatClampNeg 60) ((σL.2 3 (Int32.toNatClampNeg 60)) + 1)) fun (σ3 : MS) => FL_liveDay_15 fuelN σ3 0 0))
set_option maxHeartbeats 4000000 in
set_option maxRecDepth 100000 in
theorem kL_liveDay (l : Launch) (D : va_G) (uL : Nat → Nat) (cI cB cR cM cJ : ClassId) (t : Nat → Nat) (σL : MS) (r : Int32) (σL' : MS) (hf : FL_liveDay σL = some (r, σL')) : KZ l D (ctys cI cB cR cM cJ) t yX5_liveDay wsX5_liveDay 3 64 [.ref (uL 0)] (xL uL cI cB cR cM cJ σL) (some (.int r)) (xL uL cI cB cR cM cJ σL') := by
  refine KZ.ofI (own := RX5) (cc := cX5_liveDay) (maxL := 3) (by decide) rfl rfl (Nat.le_of_ble_eq_true rfl) ?_
  intro p e s m args below meth c R Q A ls S hRf hRl hK hA hP hD hS hl hZ hret
  obtain ⟨hx, hb, hml, hown, hts⟩ := id S
  have f21 := hts (.fieldLink RX5 21 "PenniesAway$Realm" "changing" "[I") (by decide +kernel)
  have hinX5 : ∀ w ∈ wsX50, w ∈ wsX5_liveDay := fun w hw => List.mem_cons_of_mem _ (List.mem_append_right _ hw)
  have f35 := hts (.fieldLink RX5 35 "PenniesAway$Realm" "coins" "I") (by decide +kernel)
  have hl : lv_has ls 3 [(0, .ref (uL 0))] := hl
  have hre : ∀ (x : Int32) (τL : MS) (pc : Nat) (ls : Array Slot) (H : Heap) (locs : List Loc), (some (x, τL) : Option (Int32 × MS)) = some (r, σL') → va_P D vwCl (xL uL cI cB cR cM cJ τL) H → va_D A (xL uL cI cB cR cM cJ τL) → va_S A s.heap H locs → decode cX5_liveDay pc = .ok (.ireturn, 1) → W p l e R s m args below meth c H locs 0 0 Q (F0 m pc ls [.int x]) := by intro x τL pc ls H locs he; cases he; exact hret pc ls H locs
  have b111 : ∀ (ag15 : MS → Int32 → Int32 → Option (Int32 × MS)) (hag15 : ∀ (σL : MS) (l1 : Int32) (l2 : Int32) (ls : Array Slot) (H : Heap) (locs : List Loc), ag15 σL l1 l2 = some (r, σL') → lv_has ls 3 [(0, .ref (uL 0)), (1, .int l1), (2, .int l2)] → va_P D vwCl (xL uL cI cB cR cM cJ σL) H → va_D A (xL uL cI cB cR cM cJ σL) → va_S A s.heap H locs → W p l e R s m args below meth c H locs 0 0 Q (F0 m 15 ls [])), ∀ (σL : MS) (l1 : Int32) (l2 : Int32) (ls : Array Slot) (H : Heap) (locs : List Loc), FL_liveDay_111 ag15 σL l1 l2 = some (r, σL') → lv_has ls 3 [(0, .ref (uL 0)), (1, .int l1), (2, .int l2)] → va_P D vwCl (xL uL cI cB cR cM cJ σL) H → va_D A (xL uL cI cB cR cM cJ σL) → va_S A s.heap H locs → W p l e R s m args below meth c H locs 0 0 Q (F0 m 111 ls []) := by
    intro ag15 hag15 σL l1 l2 ls H locs hf hl hP hD hS
    unfold FL_liveDay_111 at hf
    obtain ⟨x26, ex26, hf⟩ := nm_some hf
    refine lv_iinc (v := x26) (lv' := [(2, .int x26), (0, .ref (uL 0)), (1, .int l1)]) hx hb dX5_liveDay_111 hl (k := 2) rfl (by rw [ex26]; rfl) (by decide) rfl (fun ls hl => ?_)
    refine lv_goto (tgt := 15) hx hb dX5_liveDay_114 (by decide) ?_
    exact hag15 _ _ _ _ _ _ hf (lv_sub hl [1, 2, 0] rfl) hP hD hS
  have b68 : ∀ (ag15 : MS → Int32 → Int32 → Option (Int32 × MS)) (hag15 : ∀ (σL : MS) (l1 : Int32) (l2 : Int32) (ls : Array Slot) (H : Heap) (locs : List Loc), ag15 σL l1 l2 = some (r, σL') → lv_has ls 3 [(0, .ref (uL 0)), (1, .int l1), (2, .int l2)] → va_P D vwCl (xL uL cI cB cR cM cJ σL) H → va_D A (xL uL cI cB cR cM cJ σL) → va_S A s.heap H locs → W p l e R s m args below meth c H locs 0 0 Q (F0 m 15 ls [])), ∀ (σL : MS) (l1 : Int32) (l2 : Int32) (ls : Array Slot) (H : Heap) (locs : List Loc), FL_liveDay_68 ag15 σL l1 l2 = some (r, σL') → lv_has ls 3 [(0, .ref (uL 0)), (1, .int l1), (2, .int l2)] → va_P D vwCl (xL uL cI cB cR cM cJ σL) H → va_D A (xL uL cI cB cR cM cJ σL) → va_S A s.heap H locs → W p l e R s m args below meth c H locs 0 0 Q (F0 m 68 ls []) := by
    intro ag15 hag15 σL l1 l2 ls H locs hf hl hP hD hS
    unfold FL_liveDay_68 at hf
    refine lv_aload_n hx hb dX5_liveDay_68 rfl (lv_at hl 0 rfl) ?_
    refine lv_iload_n hx hb dX5_liveDay_69 rfl (lv_at hl 2 rfl) ?_
    obtain ⟨r16, hr16, hf⟩ := bi_some hf
    refine kz_v (ci := 4) (q0 := 0) (n := 1) S hRf hRl hK hA hZ hP hD hS hl [0, 1, 2, 3, 4] [.int l2] [] (kL_dumb l D uL cI cB cR cM cJ t σL l2 r16 hr16) rfl rfl rfl gX5_liveDay_X5_dumb rfl (by decide +kernel) rfl ⟨by decide, by decide⟩ rfl rfl rfl rfl (Nat.le_of_ble_eq_true rfl) dX5_liveDay_70 (fun H locs hP hD hS => ?_)
    replace hP : va_P D vwCl (xL uL cI cB cR cM cJ σL) H := hP
    replace hD : va_D A (xL uL cI cB cR cM cJ σL) := hD
    refine W.eq (g2 := F0 m 73 ls [.int r16]) rfl ?_
    refine lv_if_ne (tgt := 111) hx hb dX5_liveDay_73 (by decide) (fun c17 => ?_) (fun c17 => ?_)
    · have hf := (if_neg c17).symm.trans hf
      exact b111 ag15 hag15 _ _ _ _ _ _ hf (lv_sub hl [0, 1, 2] rfl) hP hD hS
    · have hf := (if_pos c17).symm.trans hf
      refine lv_aload_n hx hb dX5_liveDay_76 rfl (lv_at hl 0 rfl) ?_
      refine lv_iload_n hx hb dX5_liveDay_77 rfl (lv_at hl 2 rfl) ?_
      obtain ⟨r18, hr18, hf⟩ := bi_some hf
      refine kz_v (ci := 4) (q0 := 0) (n := 1) S hRf hRl hK hA hZ hP hD hS hl [0, 1, 2, 3, 4] [.int l2] [] (kL_forged l D uL cI cB cR cM cJ t σL l2 r18 hr18) rfl rfl rfl gX5_liveDay_X5_forged rfl (by decide +kernel) rfl ⟨by decide, by decide⟩ rfl rfl rfl rfl (Nat.le_of_ble_eq_true rfl) dX5_liveDay_78 (fun H locs hP hD hS => ?_)
      replace hP : va_P D vwCl (xL uL cI cB cR cM cJ σL) H := hP
      replace hD : va_D A (xL uL cI cB cR cM cJ σL) := hD
      refine W.eq (g2 := F0 m 81 ls [.int r18]) rfl ?_
      refine lv_if_ne (tgt := 111) hx hb dX5_liveDay_81 (by decide) (fun c19 => ?_) (fun c19 => ?_)
      · have hf := (if_neg c19).symm.trans hf
        exact b111 ag15 hag15 _ _ _ _ _ _ hf (lv_sub hl [0, 1, 2] rfl) hP hD hS
      · have hf := (if_pos c19).symm.trans hf
        refine lv_aload_n hx hb dX5_liveDay_84 rfl (lv_at hl 0 rfl) ?_
        refine lv_iload_n hx hb dX5_liveDay_85 rfl (lv_at hl 2 rfl) ?_
        refine lv_iconst (v := 1) hx hb dX5_liveDay_86 (by decide) ?_
        obtain ⟨r20, hr20, hf⟩ := bi_some hf
        refine kz_v (ci := 4) (q0 := 0) (n := 2) S hRf hRl hK hA hZ hP hD hS hl [0, 1, 2, 3, 4] [.int l2, .int 1] [] (kL_about l D uL cI cB cR cM cJ t σL l2 1 r20 hr20) rfl rfl rfl gX5_liveDay_X5_about rfl (by decide +kernel) rfl ⟨by decide, by decide⟩ rfl rfl rfl rfl (Nat.le_of_ble_eq_true rfl) dX5_liveDay_87 (fun H locs hP hD hS => ?_)
        replace hP : va_P D vwCl (xL uL cI cB cR cM cJ σL) H := hP
        replace hD : va_D A (xL uL cI cB cR cM cJ σL) := hD
        refine W.eq (g2 := F0 m 90 ls [.int r20]) rfl ?_
        refine lv_aload_n hx hb dX5_liveDay_90 rfl (lv_at hl 0 rfl) ?_
        refine lv_iload_n hx hb dX5_liveDay_91 rfl (lv_at hl 2 rfl) ?_
        obtain ⟨r21, hr21, hf⟩ := bi_some hf
        refine kz_v (ci := 4) (q0 := 0) (n := 1) S hRf hRl hK hA hZ hP hD hS hl [0, 1, 2, 3, 4] [.int l2] [.int r20] (kL_spanOf l D uL cI cB cR cM cJ t σL l2 r21 hr21) rfl rfl rfl gX5_liveDay_X5_spanOf rfl (by decide +kernel) rfl ⟨by decide, by decide⟩ rfl rfl rfl rfl (Nat.le_of_ble_eq_true rfl) dX5_liveDay_92 (fun H locs hP hD hS => ?_)
        replace hP : va_P D vwCl (xL uL cI cB cR cM cJ σL) H := hP
        replace hD : va_D A (xL uL cI cB cR cM cJ σL) := hD
        refine W.eq (g2 := F0 m 95 ls [.int r21, .int r20]) rfl ?_
        refine lv_icmp_le (tgt := 111) hx hb dX5_liveDay_95 (by decide) (fun c22 => ?_) (fun c22 => ?_)
        · have hf := (if_pos c22).symm.trans hf
          exact b111 ag15 hag15 _ _ _ _ _ _ hf (lv_sub hl [0, 1, 2] rfl) hP hD hS
        · have hf := (if_neg c22).symm.trans hf
          refine lv_aload_n hx hb dX5_liveDay_98 rfl (lv_at hl 0 rfl) ?_
          refine lv_iload_n hx hb dX5_liveDay_99 rfl (lv_at hl 2 rfl) ?_
          refine lv_iconst (v := 4) hx hb dX5_liveDay_100 (by decide) ?_
          refine lv_iconst (v := 1) hx hb dX5_liveDay_101 (by decide) ?_
          obtain ⟨σ24, hr23, hf⟩ := bi_some hf
          refine kz_v (ci := 4) (q0 := 0) (n := 3) S hRf hRl hK hA hZ hP hD hS hl [0, 1, 2, 3, 4] [.int l2, .int 4, .int 1] [] (kL_put l D uL cI cB cR cM cJ t σL l2 4 1 σ24 hr23) rfl rfl rfl gX5_liveDay_X5_put rfl (by decide +kernel) rfl ⟨by decide, by decide⟩ rfl rfl rfl rfl (Nat.le_of_ble_eq_true rfl) dX5_liveDay_102 (fun H locs hP hD hS => ?_)
          replace hP : va_P D vwCl (xL uL cI cB cR cM cJ σ24) H := hP
          replace hD : va_D A (xL uL cI cB cR cM cJ σ24) := hD
          refine W.eq (g2 := F0 m 105 ls []) rfl ?_
          refine lv_iload_n hx hb dX5_liveDay_105 rfl (lv_at hl 1 rfl) ?_
          refine lv_iconst (v := 1) hx hb dX5_liveDay_106 (by decide) ?_
          refine lv_iload_n hx hb dX5_liveDay_107 rfl (lv_at hl 2 rfl) ?_
          refine lv_ishl hx hb dX5_liveDay_108 ?_
          refine lv_ior hx hb dX5_liveDay_109 ?_
          refine lv_topi (fun x25 ex25 => ?_)
          have hf := nm_at ex25 hf
          refine lv_istore_n (lv' := [(1, .int x25), (0, .ref (uL 0)), (2, .int l2)]) hx hb dX5_liveDay_110 rfl hl (by decide) rfl (fun ls hl => ?_)
          exact b111 ag15 hag15 _ _ _ _ _ _ hf (lv_sub hl [1, 0, 2] rfl) hP hD hS
  have b55 : ∀ (ag15 : MS → Int32 → Int32 → Option (Int32 × MS)) (hag15 : ∀ (σL : MS) (l1 : Int32) (l2 : Int32) (ls : Array Slot) (H : Heap) (locs : List Loc), ag15 σL l1 l2 = some (r, σL') → lv_has ls 3 [(0, .ref (uL 0)), (1, .int l1), (2, .int l2)] → va_P D vwCl (xL uL cI cB cR cM cJ σL) H → va_D A (xL uL cI cB cR cM cJ σL) → va_S A s.heap H locs → W p l e R s m args below meth c H locs 0 0 Q (F0 m 15 ls [])), ∀ (σL : MS) (l1 : Int32) (l2 : Int32) (ls : Array Slot) (H : Heap) (locs : List Loc), FL_liveDay_55 ag15 σL l1 l2 = some (r, σL') → lv_has ls 3 [(0, .ref (uL 0)), (1, .int l1), (2, .int l2)] → va_P D vwCl (xL uL cI cB cR cM cJ σL) H → va_D A (xL uL cI cB cR cM cJ σL) → va_S A s.heap H locs → W p l e R s m args below meth c H locs 0 0 Q (F0 m 55 ls []) := by
    intro ag15 hag15 σL l1 l2 ls H locs hf hl hP hD hS
    unfold FL_liveDay_55 at hf
    refine lv_aload_n hx hb dX5_liveDay_55 rfl (lv_at hl 0 rfl) ?_
    refine lv_iload_n hx hb dX5_liveDay_56 rfl (lv_at hl 2 rfl) ?_
    obtain ⟨r12, hr12, hf⟩ := bi_some hf
    refine kz_v (ci := 4) (q0 := 0) (n := 1) S hRf hRl hK hA hZ hP hD hS hl [0, 1, 2, 3, 4] [.int l2] [] (kL_underWay l D uL cI cB cR cM cJ t σL l2 r12 hr12) rfl rfl rfl gX5_liveDay_X5_underWay rfl (by decide +kernel) rfl ⟨by decide, by decide⟩ rfl rfl rfl rfl (Nat.le_of_ble_eq_true rfl) dX5_liveDay_57 (fun H locs hP hD hS => ?_)
    replace hP : va_P D vwCl (xL uL cI cB cR cM cJ σL) H := hP
    replace hD : va_D A (xL uL cI cB cR cM cJ σL) := hD
    refine W.eq (g2 := F0 m 60 ls [.int r12]) rfl ?_
    refine lv_if_eq (tgt := 68) hx hb dX5_liveDay_60 (by decide) (fun c13 => ?_) (fun c13 => ?_)
    · have hf := (if_pos c13).symm.trans hf
      exact b68 ag15 hag15 _ _ _ _ _ _ hf (lv_sub hl [0, 1, 2] rfl) hP hD hS
    · have hf := (if_neg c13).symm.trans hf
      refine lv_aload_n hx hb dX5_liveDay_63 rfl (lv_at hl 0 rfl) ?_
      refine lv_iload_n hx hb dX5_liveDay_64 rfl (lv_at hl 2 rfl) ?_
      obtain ⟨σ15, hr14, hf⟩ := bi_some hf
      refine kz_v (ci := 4) (q0 := 0) (n := 1) S hRf hRl hK hA hZ hP hD hS hl [0, 1, 2, 3, 4] [.int l2] [] (kL_travel l D uL cI cB cR cM cJ t σL l2 σ15 hr14) rfl rfl rfl gX5_liveDay_X5_travel rfl (by decide +kernel) rfl ⟨by decide, by decide⟩ rfl rfl rfl rfl (Nat.le_of_ble_eq_true rfl) dX5_liveDay_65 (fun H locs hP hD hS => ?_)
      replace hP : va_P D vwCl (xL uL cI cB cR cM cJ σ15) H := hP
      replace hD : va_D A (xL uL cI cB cR cM cJ σ15) := hD
      refine W.eq (g2 := F0 m 68 ls []) rfl ?_
      exact b68 ag15 hag15 _ _ _ _ _ _ hf (lv_sub hl [0, 1, 2] rfl) hP hD hS
  have b15 : ∀ (n : Nat), ∀ (σL : MS) (l1 : Int32) (l2 : Int32) (ls : Array Slot) (H : Heap) (locs : List Loc), FL_liveDay_15 n σL l1 l2 = some (r, σL') → lv_has ls 3 [(0, .ref (uL 0)), (1, .int l1), (2, .int l2)] → va_P D vwCl (xL uL cI cB cR cM cJ σL) H → va_D A (xL uL cI cB cR cM cJ σL) → va_S A s.heap H locs → W p l e R s m args below meth c H locs 0 0 Q (F0 m 15 ls []) := by
    intro n
    induction n with
    | zero => intro σL l1 l2 ls H locs hf; exact absurd hf (by simp [FL_liveDay_15])
    | succ n ih =>
      intro σL l1 l2 ls H locs hf hl hP hD hS
      rw [FL_liveDay_15] at hf
      refine lv_iload_n hx hb dX5_liveDay_15 rfl (lv_at hl 2 rfl) ?_
      refine lv_aload_n hx hb dX5_liveDay_16 rfl (lv_at hl 0 rfl) ?_
      refine Lg_7 S hinX5 hK hP 0 rfl f35 dX5_liveDay_17 ?_
      refine lv_icmp_ge (tgt := 117) hx hb dX5_liveDay_20 (by decide) (fun c4 => ?_) (fun c4 => ?_)
      · have hf := (if_pos c4).symm.trans hf
        refine lv_iload_n hx hb dX5_liveDay_117 rfl (lv_at hl 1 rfl) ?_
        exact hre _ _ _ _ _ _ hf hP hD hS dX5_liveDay_118
      · have hf := (if_neg c4).symm.trans hf
        refine lv_aload_n hx hb dX5_liveDay_23 rfl (lv_at hl 0 rfl) ?_
        refine lv_iload_n hx hb dX5_liveDay_24 rfl (lv_at hl 2 rfl) ?_
        obtain ⟨r5, hr5, hf⟩ := bi_some hf
        refine kz_v (ci := 4) (q0 := 0) (n := 1) S hRf hRl hK hA hZ hP hD hS hl [0, 1, 2, 3, 4] [.int l2] [] (kL_dumb l D uL cI cB cR cM cJ t σL l2 r5 hr5) rfl rfl rfl gX5_liveDay_X5_dumb rfl (by decide +kernel) rfl ⟨by decide, by decide⟩ rfl rfl rfl rfl (Nat.le_of_ble_eq_true rfl) dX5_liveDay_25 (fun H locs hP hD hS => ?_)
        replace hP : va_P D vwCl (xL uL cI cB cR cM cJ σL) H := hP
        replace hD : va_D A (xL uL cI cB cR cM cJ σL) := hD
        refine W.eq (g2 := F0 m 28 ls [.int r5]) rfl ?_
        refine lv_if_ne (tgt := 55) hx hb dX5_liveDay_28 (by decide) (fun c6 => ?_) (fun c6 => ?_)
        · have hf := (if_neg c6).symm.trans hf
          exact b55 (FL_liveDay_15 n) ih _ _ _ _ _ _ hf (lv_sub hl [0, 1, 2] rfl) hP hD hS
        · have hf := (if_pos c6).symm.trans hf
          refine lv_aload_n hx hb dX5_liveDay_31 rfl (lv_at hl 0 rfl) ?_
          refine lv_iload_n hx hb dX5_liveDay_32 rfl (lv_at hl 2 rfl) ?_
          refine lv_iconst (v := 2) hx hb dX5_liveDay_33 (by decide) ?_
          obtain ⟨r7, hr7, hf⟩ := bi_some hf
          refine kz_v (ci := 4) (q0 := 0) (n := 2) S hRf hRl hK hA hZ hP hD hS hl [0, 1, 2, 3, 4] [.int l2, .int 2] [] (kL_about l D uL cI cB cR cM cJ t σL l2 2 r7 hr7) rfl rfl rfl gX5_liveDay_X5_about rfl (by decide +kernel) rfl ⟨by decide, by decide⟩ rfl rfl rfl rfl (Nat.le_of_ble_eq_true rfl) dX5_liveDay_34 (fun H locs hP hD hS => ?_)
          replace hP : va_P D vwCl (xL uL cI cB cR cM cJ σL) H := hP
          replace hD : va_D A (xL uL cI cB cR cM cJ σL) := hD
          refine W.eq (g2 := F0 m 37 ls [.int r7]) rfl ?_
          refine lv_iconst (v := 3) hx hb dX5_liveDay_37 (by decide) ?_
          refine lv_icmp_eq (tgt := 55) hx hb dX5_liveDay_38 (by decide) (fun c8 => ?_) (fun c8 => ?_)
          · have hf := (if_pos c8).symm.trans hf
            exact b55 (FL_liveDay_15 n) ih _ _ _ _ _ _ hf (lv_sub hl [0, 1, 2] rfl) hP hD hS
          · have hf := (if_neg c8).symm.trans hf
            refine lv_aload_n hx hb dX5_liveDay_41 rfl (lv_at hl 0 rfl) ?_
            refine lv_iload_n hx hb dX5_liveDay_42 rfl (lv_at hl 2 rfl) ?_
            refine lv_iconst (v := 1) hx hb dX5_liveDay_43 (by decide) ?_
            refine lv_aload_n hx hb dX5_liveDay_44 rfl (lv_at hl 0 rfl) ?_
            refine lv_iload_n hx hb dX5_liveDay_45 rfl (lv_at hl 2 rfl) ?_
            refine lv_iconst (v := 1) hx hb dX5_liveDay_46 (by decide) ?_
            obtain ⟨r9, hr9, hf⟩ := bi_some hf
            refine kz_v (ci := 4) (q0 := 0) (n := 2) S hRf hRl hK hA hZ hP hD hS hl [0, 1, 2, 3, 4] [.int l2, .int 1] [.int 1, .int l2, .ref (uL 0)] (kL_about l D uL cI cB cR cM cJ t σL l2 1 r9 hr9) rfl rfl rfl gX5_liveDay_X5_about rfl (by decide +kernel) rfl ⟨by decide, by decide⟩ rfl rfl rfl rfl (Nat.le_of_ble_eq_true rfl) dX5_liveDay_47 (fun H locs hP hD hS => ?_)
            replace hP : va_P D vwCl (xL uL cI cB cR cM cJ σL) H := hP
            replace hD : va_D A (xL uL cI cB cR cM cJ σL) := hD
            refine W.eq (g2 := F0 m 50 ls [.int r9, .int 1, .int l2, .ref (uL 0)]) rfl ?_
            refine lv_iconst (v := 1) hx hb dX5_liveDay_50 (by decide) ?_
            refine lv_iadd hx hb dX5_liveDay_51 ?_
            obtain ⟨σ11, hr10, hf⟩ := bi_some hf
            refine kz_v (ci := 4) (q0 := 0) (n := 3) S hRf hRl hK hA hZ hP hD hS hl [0, 1, 2, 3, 4] [.int l2, .int 1, .int (r9 + 1)] [] (kL_put l D uL cI cB cR cM cJ t σL l2 1 (r9 + 1) σ11 hr10) rfl rfl rfl gX5_liveDay_X5_put rfl (by decide +kernel) rfl ⟨by decide, by decide⟩ rfl rfl rfl rfl (Nat.le_of_ble_eq_true rfl) dX5_liveDay_52 (fun H locs hP hD hS => ?_)
            replace hP : va_P D vwCl (xL uL cI cB cR cM cJ σ11) H := hP
            replace hD : va_D A (xL uL cI cB cR cM cJ σ11) := hD
            refine W.eq (g2 := F0 m 55 ls []) rfl ?_
            exact b55 (FL_liveDay_15 n) ih _ _ _ _ _ _ hf (lv_sub hl [0, 1, 2] rfl) hP hD hS
  unfold FL_liveDay at hf
  refine lv_aload_n hx hb dX5_liveDay_0 rfl (lv_at hl 0 rfl) ?_
  refine Lg_3 S hinX5 hK hP 0 rfl f21 dX5_liveDay_1 ?_
  refine lv_bipush (v := 60) hx hb dX5_liveDay_4 (by decide) ?_
  refine lv_dup2_11 hx hb dX5_liveDay_6 rfl rfl ?_
  obtain ⟨g1, hf⟩ := gd_some hf
  refine va_iald (f := σL.2 3) (n := 61) (cA := cI) hx hb hK hP 4 0 rfl rfl g1 dX5_liveDay_7 ?_
  refine lv_iconst (v := 1) hx hb dX5_liveDay_8 (by decide) ?_
  refine lv_iadd hx hb dX5_liveDay_9 ?_
  obtain ⟨g2, hf⟩ := gd_some hf
  refine va_iast (f := σL.2 3) (n := 61) (cA := cI) hx hb hK hP hD hS 4 0 rfl rfl g2 dX5_liveDay_10 (fun H locs hP hD hS => ?_)
  obtain ⟨σ3, eσ3, hf⟩ := nm_some hf
  replace hP : va_P D vwCl (xL uL cI cB cR cM cJ σ3) H := by rw [eσ3]; exact hP
  replace hD : va_D A (xL uL cI cB cR cM cJ σ3) := by rw [eσ3]; exact hD
  refine lv_iconst (v := 0) hx hb dX5_liveDay_11 (by decide) ?_
  refine lv_istore_n (lv' := [(1, .int 0), (0, .ref (uL 0))]) hx hb dX5_liveDay_12 rfl hl (by decide) rfl (fun ls hl => ?_)
  refine lv_iconst (v := 0) hx hb dX5_liveDay_13 (by decide) ?_
  refine lv_istore_n (lv' := [(2, .int 0), (1, .int 0), (0, .ref (uL 0))]) hx hb dX5_liveDay_14 rfl hl (by decide) rfl (fun ls hl => ?_)
  exact b15 fuelN _ _ _ _ _ _ hf (lv_sub hl [2, 1, 0] rfl) hP hD hS
def FL_holdUp_77 (ag9 : MS → Int64 → Int32 → Int32 → Option (Int32 × MS)) (σL : MS) (l2 : Int64) (l4 : Int32) (l5 : Int32) : Option (Int32 × MS) :=
  nm (l5 + 1) fun (x14 : Int32) => ag9 σL l2 l4 x14
def FL_holdUp_74 (ag9 : MS → Int64 → Int32 → Int32 → Option (Int32 × MS)) (σL : MS) (l2 : Int64) (l5 : Int32) (s0 : Int32) (s1 : Int32) : Option (Int32 × MS) :=
  nm (s1 + s0) fun (x13 : Int32) => FL_holdUp_77 ag9 σL l2 x13 l5
def FL_holdUp_9 : Nat → MS → Int64 → Int32 → Int32 → Option (Int32 × MS)
  | 0, _, _, _, _ => none
  | n + 1, σL, l2, l4, l5 => if (σL.1 7) ≤ l5 then (some (l4, σL)) else (Option.bind (FL_underWay σL l5) fun (r3 : Int32) => if r3 = 0 then (FL_holdUp_77 (FL_holdUp_9 n) σL l2 l4 l5) else (gd (¬ (2147483647 : Int64) = 0) (nm ((l2 * 16807) - (l2 * 16807) / 2147483647 * 2147483647) fun (x6 : Int64) => gd (¬ (10 : Int64) = 0) (nm (Int64.toInt32 (x6 - x6 / 10 * 10)) fun (x8 : Int32) => Option.bind (FL_about σL l5 3) fun (r9 : Int32) => Option.bind (FL_put σL l5 3 (r9 + x8)) fun (σ11 : MS) => if x8 ≤ 0 then (FL_holdUp_74 (FL_holdUp_9 n) σ11 x6 l5 0 l4) else (FL_holdUp_74 (FL_holdUp_9 n) σ11 x6 l5 1 l4)))))
def FL_holdUp (σL : MS) (a1 : Int32) : Option (Int32 × MS) :=
  nm (Int32.toInt64 a1) fun (x1 : Int64) => FL_holdUp_9 fuelN σL x1 0 0
set_option maxHeartbeats 4000000 in
set_option maxRecDepth 100000 in
theorem kL_holdUp (l : Launch) (D : va_G) (uL : Nat → Nat) (cI cB cR cM cJ : ClassId) (t : Nat → Nat) (σL : MS) (a1 : Int32) (r : Int32) (σL' : MS) (hf : FL_holdUp σL a1 = some (r, σL')) : KZ l D (ctys cI cB cR cM cJ) t yX5_holdUp wsX5_holdUp 2 43 [.ref (uL 0), .int a1] (xL uL cI cB cR cM cJ σL) (some (.int r)) (xL uL cI cB cR cM cJ σL') := by
  refine KZ.ofI (own := RX5) (cc := cX5_holdUp) (maxL := 7) (by decide) rfl rfl (Nat.le_of_ble_eq_true rfl) ?_
  intro p e s m args below meth c R Q A ls S hRf hRl hK hA hP hD hS hl hZ hret
  obtain ⟨hx, hb, hml, hown, hts⟩ := id S
  have f35 := hts (.fieldLink RX5 35 "PenniesAway$Realm" "coins" "I") (by decide +kernel)
  have hinX5 : ∀ w ∈ wsX50, w ∈ wsX5_holdUp := fun w hw => List.mem_cons_of_mem _ (List.mem_append_right _ hw)
  have c94 := hts (.constantLong RX5 94 (16807)) (by decide +kernel)
  have c96 := hts (.constantLong RX5 96 (2147483647)) (by decide +kernel)
  have c98 := hts (.constantLong RX5 98 (10)) (by decide +kernel)
  have hl : lv_has ls 7 [(0, .ref (uL 0)), (1, .int a1)] := hl
  have hre : ∀ (x : Int32) (τL : MS) (pc : Nat) (ls : Array Slot) (H : Heap) (locs : List Loc), (some (x, τL) : Option (Int32 × MS)) = some (r, σL') → va_P D vwCl (xL uL cI cB cR cM cJ τL) H → va_D A (xL uL cI cB cR cM cJ τL) → va_S A s.heap H locs → decode cX5_holdUp pc = .ok (.ireturn, 1) → W p l e R s m args below meth c H locs 0 0 Q (F0 m pc ls [.int x]) := by intro x τL pc ls H locs he; cases he; exact hret pc ls H locs
  have b77 : ∀ (ag9 : MS → Int64 → Int32 → Int32 → Option (Int32 × MS)) (hag9 : ∀ (σL : MS) (l2 : Int64) (l4 : Int32) (l5 : Int32) (ls : Array Slot) (H : Heap) (locs : List Loc), ag9 σL l2 l4 l5 = some (r, σL') → lv_has ls 7 [(0, .ref (uL 0)), (2, .long l2), (4, .int l4), (5, .int l5)] → va_P D vwCl (xL uL cI cB cR cM cJ σL) H → va_D A (xL uL cI cB cR cM cJ σL) → va_S A s.heap H locs → W p l e R s m args below meth c H locs 0 0 Q (F0 m 9 ls [])), ∀ (σL : MS) (l2 : Int64) (l4 : Int32) (l5 : Int32) (ls : Array Slot) (H : Heap) (locs : List Loc), FL_holdUp_77 ag9 σL l2 l4 l5 = some (r, σL') → lv_has ls 7 [(0, .ref (uL 0)), (2, .long l2), (4, .int l4), (5, .int l5)] → va_P D vwCl (xL uL cI cB cR cM cJ σL) H → va_D A (xL uL cI cB cR cM cJ σL) → va_S A s.heap H locs → W p l e R s m args below meth c H locs 0 0 Q (F0 m 77 ls []) := by
    intro ag9 hag9 σL l2 l4 l5 ls H locs hf hl hP hD hS
    unfold FL_holdUp_77 at hf
    obtain ⟨x14, ex14, hf⟩ := nm_some hf
    refine lv_iinc (v := x14) (lv' := [(5, .int x14), (0, .ref (uL 0)), (2, .long l2), (4, .int l4)]) hx hb dX5_holdUp_77 hl (k := 3) rfl (by rw [ex14]; rfl) (by decide) rfl (fun ls hl => ?_)
    refine lv_goto (tgt := 9) hx hb dX5_holdUp_80 (by decide) ?_
    exact hag9 _ _ _ _ _ _ _ hf (lv_sub hl [1, 2, 3, 0] rfl) hP hD hS
  have b74 : ∀ (ag9 : MS → Int64 → Int32 → Int32 → Option (Int32 × MS)) (hag9 : ∀ (σL : MS) (l2 : Int64) (l4 : Int32) (l5 : Int32) (ls : Array Slot) (H : Heap) (locs : List Loc), ag9 σL l2 l4 l5 = some (r, σL') → lv_has ls 7 [(0, .ref (uL 0)), (2, .long l2), (4, .int l4), (5, .int l5)] → va_P D vwCl (xL uL cI cB cR cM cJ σL) H → va_D A (xL uL cI cB cR cM cJ σL) → va_S A s.heap H locs → W p l e R s m args below meth c H locs 0 0 Q (F0 m 9 ls [])), ∀ (σL : MS) (l2 : Int64) (l5 : Int32) (s0 : Int32) (s1 : Int32) (ls : Array Slot) (H : Heap) (locs : List Loc), FL_holdUp_74 ag9 σL l2 l5 s0 s1 = some (r, σL') → lv_has ls 7 [(0, .ref (uL 0)), (2, .long l2), (5, .int l5)] → va_P D vwCl (xL uL cI cB cR cM cJ σL) H → va_D A (xL uL cI cB cR cM cJ σL) → va_S A s.heap H locs → W p l e R s m args below meth c H locs 0 0 Q (F0 m 74 ls [.int s0, .int s1]) := by
    intro ag9 hag9 σL l2 l5 s0 s1 ls H locs hf hl hP hD hS
    unfold FL_holdUp_74 at hf
    refine lv_iadd hx hb dX5_holdUp_74 ?_
    refine lv_topi (fun x13 ex13 => ?_)
    have hf := nm_at ex13 hf
    refine lv_istore (lv' := [(4, .int x13), (0, .ref (uL 0)), (2, .long l2), (5, .int l5)]) hx hb dX5_holdUp_75 hl (by decide) rfl (fun ls hl => ?_)
    exact b77 ag9 hag9 _ _ _ _ _ _ _ hf (lv_sub hl [1, 2, 0, 3] rfl) hP hD hS
  have b9 : ∀ (n : Nat), ∀ (σL : MS) (l2 : Int64) (l4 : Int32) (l5 : Int32) (ls : Array Slot) (H : Heap) (locs : List Loc), FL_holdUp_9 n σL l2 l4 l5 = some (r, σL') → lv_has ls 7 [(0, .ref (uL 0)), (2, .long l2), (4, .int l4), (5, .int l5)] → va_P D vwCl (xL uL cI cB cR cM cJ σL) H → va_D A (xL uL cI cB cR cM cJ σL) → va_S A s.heap H locs → W p l e R s m args below meth c H locs 0 0 Q (F0 m 9 ls []) := by
    intro n
    induction n with
    | zero => intro σL l2 l4 l5 ls H locs hf; exact absurd hf (by simp [FL_holdUp_9])
    | succ n ih =>
      intro σL l2 l4 l5 ls H locs hf hl hP hD hS
      rw [FL_holdUp_9] at hf
      refine lv_iload hx hb dX5_holdUp_9 (lv_at hl 3 rfl) ?_
      refine lv_aload_n hx hb dX5_holdUp_11 rfl (lv_at hl 0 rfl) ?_
      refine Lg_7 S hinX5 hK hP 0 rfl f35 dX5_holdUp_12 ?_
      refine lv_icmp_ge (tgt := 83) hx hb dX5_holdUp_15 (by decide) (fun c2 => ?_) (fun c2 => ?_)
      · have hf := (if_pos c2).symm.trans hf
        refine lv_iload hx hb dX5_holdUp_83 (lv_at hl 2 rfl) ?_
        exact hre _ _ _ _ _ _ hf hP hD hS dX5_holdUp_85
      · have hf := (if_neg c2).symm.trans hf
        refine lv_aload_n hx hb dX5_holdUp_18 rfl (lv_at hl 0 rfl) ?_
        refine lv_iload hx hb dX5_holdUp_19 (lv_at hl 3 rfl) ?_
        obtain ⟨r3, hr3, hf⟩ := bi_some hf
        refine kz_v (ci := 4) (q0 := 0) (n := 1) S hRf hRl hK hA hZ hP hD hS hl [0, 1, 2, 3, 4] [.int l5] [] (kL_underWay l D uL cI cB cR cM cJ t σL l5 r3 hr3) rfl rfl rfl gX5_holdUp_X5_underWay rfl (by decide +kernel) rfl ⟨by decide, by decide⟩ rfl rfl rfl rfl (Nat.le_of_ble_eq_true rfl) dX5_holdUp_21 (fun H locs hP hD hS => ?_)
        replace hP : va_P D vwCl (xL uL cI cB cR cM cJ σL) H := hP
        replace hD : va_D A (xL uL cI cB cR cM cJ σL) := hD
        refine W.eq (g2 := F0 m 24 ls [.int r3]) rfl ?_
        refine lv_if_eq (tgt := 77) hx hb dX5_holdUp_24 (by decide) (fun c4 => ?_) (fun c4 => ?_)
        · have hf := (if_pos c4).symm.trans hf
          exact b77 (FL_holdUp_9 n) ih _ _ _ _ _ _ _ hf (lv_sub hl [0, 1, 2, 3] rfl) hP hD hS
        · have hf := (if_neg c4).symm.trans hf
          refine lv_lload_n hx hb dX5_holdUp_27 rfl (lv_at hl 1 rfl) ?_
          refine lv_ldc2 (v := 16807) hx hb hown c94 dX5_holdUp_28 ?_
          refine lv_lmul hx hb dX5_holdUp_31 ?_
          refine lv_ldc2 (v := 2147483647) hx hb hown c96 dX5_holdUp_32 ?_
          obtain ⟨g5, hf⟩ := gd_some hf
          refine lv_lrem hx hb dX5_holdUp_35 g5 ?_
          refine lv_topl (fun x6 ex6 => ?_)
          have hf := nm_at ex6 hf
          refine lv_lstore_n (lv' := [(2, .long x6), (0, .ref (uL 0)), (4, .int l4), (5, .int l5)]) hx hb dX5_holdUp_36 rfl hl (by decide) rfl (fun ls hl => ?_)
          refine lv_lload_n hx hb dX5_holdUp_37 rfl (lv_at hl 0 rfl) ?_
          refine lv_ldc2 (v := 10) hx hb hown c98 dX5_holdUp_38 ?_
          obtain ⟨g7, hf⟩ := gd_some hf
          refine lv_lrem hx hb dX5_holdUp_41 g7 ?_
          refine lv_l2i hx hb dX5_holdUp_42 rfl ?_
          refine lv_topi (fun x8 ex8 => ?_)
          have hf := nm_at ex8 hf
          refine lv_istore (lv' := [(6, .int x8), (2, .long x6), (0, .ref (uL 0)), (4, .int l4), (5, .int l5)]) hx hb dX5_holdUp_43 hl (by decide) rfl (fun ls hl => ?_)
          refine lv_aload_n hx hb dX5_holdUp_45 rfl (lv_at hl 2 rfl) ?_
          refine lv_iload hx hb dX5_holdUp_46 (lv_at hl 4 rfl) ?_
          refine lv_iconst (v := 3) hx hb dX5_holdUp_48 (by decide) ?_
          refine lv_aload_n hx hb dX5_holdUp_49 rfl (lv_at hl 2 rfl) ?_
          refine lv_iload hx hb dX5_holdUp_50 (lv_at hl 4 rfl) ?_
          refine lv_iconst (v := 3) hx hb dX5_holdUp_52 (by decide) ?_
          obtain ⟨r9, hr9, hf⟩ := bi_some hf
          refine kz_v (ci := 4) (q0 := 0) (n := 2) S hRf hRl hK hA hZ hP hD hS hl [0, 1, 2, 3, 4] [.int l5, .int 3] [.int 3, .int l5, .ref (uL 0)] (kL_about l D uL cI cB cR cM cJ t σL l5 3 r9 hr9) rfl rfl rfl gX5_holdUp_X5_about rfl (by decide +kernel) rfl ⟨by decide, by decide⟩ rfl rfl rfl rfl (Nat.le_of_ble_eq_true rfl) dX5_holdUp_53 (fun H locs hP hD hS => ?_)
          replace hP : va_P D vwCl (xL uL cI cB cR cM cJ σL) H := hP
          replace hD : va_D A (xL uL cI cB cR cM cJ σL) := hD
          refine W.eq (g2 := F0 m 56 ls [.int r9, .int 3, .int l5, .ref (uL 0)]) rfl ?_
          refine lv_iload hx hb dX5_holdUp_56 (lv_at hl 0 rfl) ?_
          refine lv_iadd hx hb dX5_holdUp_58 ?_
          obtain ⟨σ11, hr10, hf⟩ := bi_some hf
          refine kz_v (ci := 4) (q0 := 0) (n := 3) S hRf hRl hK hA hZ hP hD hS hl [0, 1, 2, 3, 4] [.int l5, .int 3, .int (r9 + x8)] [] (kL_put l D uL cI cB cR cM cJ t σL l5 3 (r9 + x8) σ11 hr10) rfl rfl rfl gX5_holdUp_X5_put rfl (by decide +kernel) rfl ⟨by decide, by decide⟩ rfl rfl rfl rfl (Nat.le_of_ble_eq_true rfl) dX5_holdUp_59 (fun H locs hP hD hS => ?_)
          replace hP : va_P D vwCl (xL uL cI cB cR cM cJ σ11) H := hP
          replace hD : va_D A (xL uL cI cB cR cM cJ σ11) := hD
          refine W.eq (g2 := F0 m 62 ls []) rfl ?_
          refine lv_iload hx hb dX5_holdUp_62 (lv_at hl 3 rfl) ?_
          refine lv_iload hx hb dX5_holdUp_64 (lv_at hl 0 rfl) ?_
          refine lv_if_le (tgt := 73) hx hb dX5_holdUp_66 (by decide) (fun c12 => ?_) (fun c12 => ?_)
          · have hf := (if_pos c12).symm.trans hf
            refine lv_iconst (v := 0) hx hb dX5_holdUp_73 (by decide) ?_
            exact b74 (FL_holdUp_9 n) ih _ _ _ _ _ _ _ _ hf (lv_sub hl [2, 1, 4] rfl) hP hD hS
          · have hf := (if_neg c12).symm.trans hf
            refine lv_iconst (v := 1) hx hb dX5_holdUp_69 (by decide) ?_
            refine lv_goto (tgt := 74) hx hb dX5_holdUp_70 (by decide) ?_
            exact b74 (FL_holdUp_9 n) ih _ _ _ _ _ _ _ _ hf (lv_sub hl [2, 1, 4] rfl) hP hD hS
  unfold FL_holdUp at hf
  refine lv_iload_n hx hb dX5_holdUp_0 rfl (lv_at hl 1 rfl) ?_
  refine lv_i2l hx hb dX5_holdUp_1 rfl ?_
  refine lv_topl (fun x1 ex1 => ?_)
  have hf := nm_at ex1 hf
  refine lv_lstore_n (lv' := [(2, .long x1), (0, .ref (uL 0)), (1, .int a1)]) hx hb dX5_holdUp_2 rfl hl (by decide) rfl (fun ls hl => ?_)
  refine lv_iconst (v := 0) hx hb dX5_holdUp_3 (by decide) ?_
  refine lv_istore (lv' := [(4, .int 0), (2, .long x1), (0, .ref (uL 0)), (1, .int a1)]) hx hb dX5_holdUp_4 hl (by decide) rfl (fun ls hl => ?_)
  refine lv_iconst (v := 0) hx hb dX5_holdUp_6 (by decide) ?_
  refine lv_istore (lv' := [(5, .int 0), (4, .int 0), (2, .long x1), (0, .ref (uL 0)), (1, .int a1)]) hx hb dX5_holdUp_7 hl (by decide) rfl (fun ls hl => ?_)
  exact b9 fuelN _ _ _ _ _ _ _ hf (lv_sub hl [3, 2, 1, 0] rfl) hP hD hS
