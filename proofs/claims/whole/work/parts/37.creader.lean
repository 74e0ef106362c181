def FT_isWord_28 (i : Nat) : Nat → MS → Int32 → Option Int32
  | 0, _, _ => none
  | n + 1, σT, l2 => Option.bind (FJ_length i) fun (r4 : Int32) => if r4 ≤ l2 then (some (1)) else (gd (¬ ((((σT.1 3) + l2) : Int32) < 0 ∨ 500 ≤ Int32.toNatClampNeg ((σT.1 3) + l2))) (Option.bind (FJ_charAt i l2) fun (r7 : Int32) => if (σT.2 0 (Int32.toNatClampNeg ((σT.1 3) + l2))) = r7 then (nm (l2 + 1) fun (x9 : Int32) => (FT_isWord_28 i n) σT x9) else (some (0))))
def FT_isWord (σT : MS) (i : Nat) : Option Int32 :=
  if (σT.1 2) = 1 then (Option.bind (FJ_length i) fun (r2 : Int32) => if ((σT.1 5) - (σT.1 3)) = r2 then (FT_isWord_28 i fuelN σT 0) else (some (0))) else (some (0))
set_option maxHeartbeats 4000000 in
set_option maxRecDepth 100000 in
theorem kT_isWord (l : Launch) (D : va_G) (uT : Nat → Nat) (cI cB cR cM cJ : ClassId) (t : Nat → Nat) (σT : MS) (i : Nat) (r : Int32) (hf : FT_isWord σT i = some (r)) : KZ l D (ctys cI cB cR cM cJ) t yX7_isWord wsX7_isWord 4 85 [.ref (uT 0), .ref (t (10 + i))] (xT uT cI cB cR cM cJ σT) (some (.int r)) (xT uT cI cB cR cM cJ σT) := by
  refine KZ.ofZ (own := RX7) (cc := cX7_isWord) (maxL := 3) (by decide) rfl rfl (Nat.le_of_ble_eq_true rfl) ?_
  intro p e s m args below meth c R Q A ls S hRf hRl hK hA hP hD hS hl hZ hret
  obtain ⟨hx, hb, hml, hown, hts⟩ := id S
  have f17 := hts (.fieldLink RX7 17 "PenniesAway$Tape" "sort" "I") (by decide +kernel)
  have hinX7 : ∀ w ∈ wsX70, w ∈ wsX7_isWord := fun w hw => List.mem_cons_of_mem _ (List.mem_append_right _ hw)
  have f26 := hts (.fieldLink RX7 26 "PenniesAway$Tape" "end" "I") (by decide +kernel)
  have f20 := hts (.fieldLink RX7 20 "PenniesAway$Tape" "start" "I") (by decide +kernel)
  have f9 := hts (.fieldLink RX7 9 "PenniesAway$Tape" "bytes" "[B") (by decide +kernel)
  have hl : lv_has ls 3 [(0, .ref (uT 0)), (1, .ref (t (10 + i)))] := hl
  have hre : ∀ (x : Int32) (pc : Nat) (ls : Array Slot) (H : Heap) (locs : List Loc), (some (x) : Option Int32) = some (r) → va_P D vwCl (xT uT cI cB cR cM cJ σT) H → va_D A (xT uT cI cB cR cM cJ σT) → va_S A s.heap H locs → decode cX7_isWord pc = .ok (.ireturn, 1) → narrow .boolean (.int x) = .int x → W p l e R s m args below meth c H locs 0 0 Q (F0 m pc ls [.int x]) := by intro x pc ls H locs he; cases he; exact hret pc ls H locs
  have b28 : ∀ (n : Nat), ∀ (l2 : Int32) (ls : Array Slot) (H : Heap) (locs : List Loc), FT_isWord_28 i n σT l2 = some (r) → lv_has ls 3 [(0, .ref (uT 0)), (1, .ref (t (10 + i))), (2, .int l2)] → va_P D vwCl (xT uT cI cB cR cM cJ σT) H → va_D A (xT uT cI cB cR cM cJ σT) → va_S A s.heap H locs → W p l e R s m args below meth c H locs 0 0 Q (F0 m 28 ls []) := by
    intro n
    induction n with
    | zero => intro l2 ls H locs hf; exact absurd hf (by simp [FT_isWord_28])
    | succ n ih =>
      intro l2 ls H locs hf hl hP hD hS
      rw [FT_isWord_28] at hf
      refine lv_iload_n hx hb dX7_isWord_28 rfl (lv_at hl 2 rfl) ?_
      refine lv_aload_n hx hb dX7_isWord_29 rfl (lv_at hl 1 rfl) ?_
      obtain ⟨r4, hr4, hf⟩ := bi_some hf
      replace hr4 := gd_some hr4
      have er4 : nI (zlen.getD i 0) = r4 := Option.some.inj hr4.2
      refine kz_k (n := 0) hr4.1 S hRf hRl hK hA hZ hP hD hS hl [] [.int l2] (kJ_length l D cI cB cR cM cJ t hr4.1) gX7_isWord_J0_length_8abf5 rfl (by decide +kernel) rfl ⟨by decide, by decide⟩ rfl (Nat.le_of_ble_eq_true rfl) dX7_isWord_30 (fun H locs hP hD hS => ?_)
      rw [er4]
      refine W.eq (g2 := F0 m 33 ls [.int r4, .int l2]) rfl ?_
      refine lv_icmp_ge (tgt := 63) hx hb dX7_isWord_33 (by decide) (fun c5 => ?_) (fun c5 => ?_)
      · have hf := (if_pos c5).symm.trans hf
        refine lv_iconst (v := 1) hx hb dX7_isWord_63 (by decide) ?_
        exact hre _ _ _ _ _ hf hP hD hS dX7_isWord_64 rfl
      · have hf := (if_neg c5).symm.trans hf
        refine lv_aload_n hx hb dX7_isWord_36 rfl (lv_at hl 0 rfl) ?_
        refine Tg_0 S hinX7 hK hP 0 rfl f9 dX7_isWord_37 ?_
        refine lv_aload_n hx hb dX7_isWord_40 rfl (lv_at hl 0 rfl) ?_
        refine Tg_3 S hinX7 hK hP 0 rfl f20 dX7_isWord_41 ?_
        refine lv_iload_n hx hb dX7_isWord_44 rfl (lv_at hl 2 rfl) ?_
        refine lv_iadd hx hb dX7_isWord_45 ?_
        obtain ⟨g6, hf⟩ := gd_some hf
        refine va_bald (f := σT.2 0) (n := 500) (cA := cB) hx hb hK hP 1 1 rfl rfl g6 dX7_isWord_46 ?_
        refine lv_aload_n hx hb dX7_isWord_47 rfl (lv_at hl 1 rfl) ?_
        refine lv_iload_n hx hb dX7_isWord_48 rfl (lv_at hl 2 rfl) ?_
        obtain ⟨r7, hr7, hf⟩ := bi_some hf
        replace hr7 := gd_some hr7
        have er7 : zch i l2 = r7 := Option.some.inj hr7.2
        refine kz_k (n := 1) hr7.1.1 S hRf hRl hK hA hZ hP hD hS hl [.int l2] [.int (σT.2 0 (Int32.toNatClampNeg ((σT.1 3) + l2)))] (kJ_charAt l D cI cB cR cM cJ t hr7.1.1 l2 hr7.1.2.1 hr7.1.2.2) gX7_isWord_J0_charAt_5068e rfl (by decide +kernel) rfl ⟨by decide, by decide⟩ rfl (Nat.le_of_ble_eq_true rfl) dX7_isWord_49 (fun H locs hP hD hS => ?_)
        rw [er7]
        refine W.eq (g2 := F0 m 52 ls [.int r7, .int (σT.2 0 (Int32.toNatClampNeg ((σT.1 3) + l2)))]) rfl ?_
        refine lv_icmp_eq (tgt := 57) hx hb dX7_isWord_52 (by decide) (fun c8 => ?_) (fun c8 => ?_)
        · have hf := (if_pos c8).symm.trans hf
          obtain ⟨x9, ex9, hf⟩ := nm_some hf
          refine lv_iinc (v := x9) (lv' := [(2, .int x9), (0, .ref (uT 0)), (1, .ref (t (10 + i)))]) hx hb dX7_isWord_57 hl (k := 2) rfl (by rw [ex9]; rfl) (by decide) rfl (fun ls hl => ?_)
          refine lv_goto (tgt := 28) hx hb dX7_isWord_60 (by decide) ?_
          exact ih _ _ _ _ hf (lv_sub hl [1, 2, 0] rfl) hP hD hS
        · have hf := (if_neg c8).symm.trans hf
          refine lv_iconst (v := 0) hx hb dX7_isWord_55 (by decide) ?_
          exact hre _ _ _ _ _ hf hP hD hS dX7_isWord_56 rfl
  unfold FT_isWord at hf
  refine lv_aload_n hx hb dX7_isWord_0 rfl (lv_at hl 0 rfl) ?_
  refine Tg_2 S hinX7 hK hP 0 rfl f17 dX7_isWord_1 ?_
  refine lv_iconst (v := 1) hx hb dX7_isWord_4 (by decide) ?_
  refine lv_icmp_ne (tgt := 24) hx hb dX7_isWord_5 (by decide) (fun c1 => ?_) (fun c1 => ?_)
  · have hf := (if_neg c1).symm.trans hf
    refine lv_iconst (v := 0) hx hb dX7_isWord_24 (by decide) ?_
    exact hre _ _ _ _ _ hf hP hD hS dX7_isWord_25 rfl
  · have hf := (if_pos c1).symm.trans hf
    refine lv_aload_n hx hb dX7_isWord_8 rfl (lv_at hl 0 rfl) ?_
    refine Tg_5 S hinX7 hK hP 0 rfl f26 dX7_isWord_9 ?_
    refine lv_aload_n hx hb dX7_isWord_12 rfl (lv_at hl 0 rfl) ?_
    refine Tg_3 S hinX7 hK hP 0 rfl f20 dX7_isWord_13 ?_
    refine lv_isub hx hb dX7_isWord_16 ?_
    refine lv_aload_n hx hb dX7_isWord_17 rfl (lv_at hl 1 rfl) ?_
    obtain ⟨r2, hr2, hf⟩ := bi_some hf
    replace hr2 := gd_some hr2
    have er2 : nI (zlen.getD i 0) = r2 := Option.some.inj hr2.2
    refine kz_k (n := 0) hr2.1 S hRf hRl hK hA hZ hP hD hS hl [] [.int ((σT.1 5) - (σT.1 3))] (kJ_length l D cI cB cR cM cJ t hr2.1) gX7_isWord_J0_length_8abf5 rfl (by decide +kernel) rfl ⟨by decide, by decide⟩ rfl (Nat.le_of_ble_eq_true rfl) dX7_isWord_18 (fun H locs hP hD hS => ?_)
    rw [er2]
    refine W.eq (g2 := F0 m 21 ls [.int r2, .int ((σT.1 5) - (σT.1 3))]) rfl ?_
    refine lv_icmp_eq (tgt := 26) hx hb dX7_isWord_21 (by decide) (fun c3 => ?_) (fun c3 => ?_)
    · have hf := (if_pos c3).symm.trans hf
      refine lv_iconst (v := 0) hx hb dX7_isWord_26 (by decide) ?_
      refine lv_istore_n (lv' := [(2, .int 0), (0, .ref (uT 0)), (1, .ref (t (10 + i)))]) hx hb dX7_isWord_27 rfl hl (by decide) rfl (fun ls hl => ?_)
      exact b28 fuelN _ _ _ _ hf (lv_sub hl [1, 2, 0] rfl) hP hD hS
    · have hf := (if_neg c3).symm.trans hf
      refine lv_iconst (v := 0) hx hb dX7_isWord_24 (by decide) ?_
      exact hre _ _ _ _ _ hf hP hD hS dX7_isWord_25 rfl
def FR_faulty (σR : MS) (σT : MS) (a1 : Int32) : Option (Int32 × MS) :=
  nm (setF σR 2 a1) fun (σ1 : MS) => nm (setF σ1 3 (σT.1 3)) fun (σ2 : MS) => some (0, σ2)
set_option maxHeartbeats 4000000 in
set_option maxRecDepth 100000 in
theorem kR_faulty (l : Launch) (D : va_G) (uR uT : Nat → Nat) (cI cB cR cM cJ : ClassId) (t : Nat → Nat) (σR : MS) (σT : MS) (a1 : Int32) (r : Int32) (σR' : MS) (hf : FR_faulty σR σT a1 = some (r, σR')) : KZ l D (ctys cI cB cR cM cJ) t yX4_faulty wsX4_faulty 0 0 [.ref (uR 0), .int a1] (xR uR uT cI cB cR cM cJ σR ++ xT uT cI cB cR cM cJ σT) (some (.int r)) (xR uR uT cI cB cR cM cJ σR' ++ xT uT cI cB cR cM cJ σT) := by
  refine KZ.ofZ (own := RX4) (cc := cX4_faulty) (maxL := 2) (by decide) rfl rfl (Nat.le_of_ble_eq_true rfl) ?_
  intro p e s m args below meth c R Q A ls S hRf hRl hK hA hP hD hS hl hZ hret
  obtain ⟨hx, hb, hml, hown, hts⟩ := id S
  have f20 := hts (.fieldLink RX4 20 "PenniesAway$Reader" "faultNumber" "I") (by decide +kernel)
  have hinX4 : ∀ w ∈ wsX40, w ∈ wsX4_faulty := fun w hw => List.mem_cons_of_mem _ (List.mem_append_left _ (List.mem_append_right _ hw))
  have f10 := hts (.fieldLink RX4 10 "PenniesAway$Reader" "text" "LPenniesAway$Tape;") (by decide +kernel)
  have f132 := hts (.fieldLink RX4 132 "PenniesAway$Tape" "start" "I") (by decide +kernel)
  have hinX7 : ∀ w ∈ wsX70, w ∈ wsX4_faulty := fun w hw => List.mem_cons_of_mem _ (List.mem_append_right _ hw)
  have f23 := hts (.fieldLink RX4 23 "PenniesAway$Reader" "faultPlace" "I") (by decide +kernel)
  have hl : lv_has ls 2 [(0, .ref (uR 0)), (1, .int a1)] := hl
  have hre : ∀ (x : Int32) (τR : MS) (pc : Nat) (ls : Array Slot) (H : Heap) (locs : List Loc), (some (x, τR) : Option (Int32 × MS)) = some (r, σR') → va_P D vwCl (xR uR uT cI cB cR cM cJ τR ++ xT uT cI cB cR cM cJ σT) H → va_D A (xR uR uT cI cB cR cM cJ τR ++ xT uT cI cB cR cM cJ σT) → va_S A s.heap H locs → decode cX4_faulty pc = .ok (.ireturn, 1) → narrow .boolean (.int x) = .int x → W p l e R s m args below meth c H locs 0 0 Q (F0 m pc ls [.int x]) := by intro x τR pc ls H locs he; cases he; exact hret pc ls H locs
  unfold FR_faulty at hf
  refine lv_aload_n hx hb dX4_faulty_0 rfl (lv_at hl 0 rfl) ?_
  refine lv_iload_n hx hb dX4_faulty_1 rfl (lv_at hl 1 rfl) ?_
  refine Rp_2 S hinX4 hK hP hD hS 0 rfl f20 dX4_faulty_2 (fun H locs hP hD hS => ?_)
  obtain ⟨σ1, eσ1, hf⟩ := nm_some hf
  replace hP : va_P D vwCl (xR uR uT cI cB cR cM cJ σ1 ++ xT uT cI cB cR cM cJ σT) H := by rw [eσ1]; exact hP
  replace hD : va_D A (xR uR uT cI cB cR cM cJ σ1 ++ xT uT cI cB cR cM cJ σT) := by rw [eσ1]; exact hD
  refine lv_aload_n hx hb dX4_faulty_5 rfl (lv_at hl 0 rfl) ?_
  refine lv_aload_n hx hb dX4_faulty_6 rfl (lv_at hl 0 rfl) ?_
  refine Rg_0 S hinX4 hK hP 0 rfl f10 dX4_faulty_7 ?_
  refine Tg_3 S hinX7 hK hP 1 rfl f132 dX4_faulty_10 ?_
  refine Rp_3 S hinX4 hK hP hD hS 0 rfl f23 dX4_faulty_13 (fun H locs hP hD hS => ?_)
  obtain ⟨σ2, eσ2, hf⟩ := nm_some hf
  replace hP : va_P D vwCl (xR uR uT cI cB cR cM cJ σ2 ++ xT uT cI cB cR cM cJ σT) H := by rw [eσ2]; exact hP
  replace hD : va_D A (xR uR uT cI cB cR cM cJ σ2 ++ xT uT cI cB cR cM cJ σT) := by rw [eσ2]; exact hD
  refine lv_iconst (v := 0) hx hb dX4_faulty_16 (by decide) ?_
  exact hre _ _ _ _ _ _ hf hP hD hS dX4_faulty_17 rfl
def FR_takeNumber (σR : MS) (σT : MS) (a1 : Int32) (a2 : Int32) : Option (Int32 × MS × MS) :=
  if (σT.1 2) = 2 then (Option.bind (FP_outside (σT.1 4) a1 a2) fun (r2 : Int32) => if r2 = 0 then (nm (setF σR 1 (σT.1 4)) fun (σ4 : MS) => Option.bind (FT_step σT) fun (σ6 : MS) => some (1, σ4, σ6)) else (bd2 (FR_faulty σR σT 2) fun (r7 : Int32) (σ8 : MS) => gd (r7 = 0 ∨ r7 = 1) (some (r7, σ8, σT)))) else (bd2 (FR_faulty σR σT 1) fun (r10 : Int32) (σ11 : MS) => gd (r10 = 0 ∨ r10 = 1) (some (r10, σ11, σT)))
set_option maxHeartbeats 4000000 in
set_option maxRecDepth 100000 in
theorem kR_takeNumber (l : Launch) (D : va_G) (uR uT : Nat → Nat) (cI cB cR cM cJ : ClassId) (t : Nat → Nat) (σR : MS) (σT : MS) (a1 : Int32) (a2 : Int32) (r : Int32) (σR' : MS) (σT' : MS) (hf : FR_takeNumber σR σT a1 a2 = some (r, σR', σT')) : KZ l D (ctys cI cB cR cM cJ) t yX4_takeNumber wsX4_takeNumber 2 42 [.ref (uR 0), .int a1, .int a2] (xR uR uT cI cB cR cM cJ σR ++ xT uT cI cB cR cM cJ σT) (some (.int r)) (xR uR uT cI cB cR cM cJ σR' ++ xT uT cI cB cR cM cJ σT') := by
  refine KZ.ofZ (own := RX4) (cc := cX4_takeNumber) (maxL := 3) (by decide) rfl rfl (Nat.le_of_ble_eq_true rfl) ?_
  intro p e s m args below meth c R Q A ls S hRf hRl hK hA hP hD hS hl hZ hret
  obtain ⟨hx, hb, hml, hown, hts⟩ := id S
  have f10 := hts (.fieldLink RX4 10 "PenniesAway$Reader" "text" "LPenniesAway$Tape;") (by decide +kernel)
  have hinX4 : ∀ w ∈ wsX40, w ∈ wsX4_takeNumber := fun w hw => List.mem_cons_of_mem _ (List.mem_append_left _ (List.mem_append_right _ hw))
  have f47 := hts (.fieldLink RX4 47 "PenniesAway$Tape" "sort" "I") (by decide +kernel)
  have hinX7 : ∀ w ∈ wsX70, w ∈ wsX4_takeNumber := fun w hw => List.mem_cons_of_mem _ (List.mem_append_right _ hw)
  have f86 := hts (.fieldLink RX4 86 "PenniesAway$Tape" "number" "I") (by decide +kernel)
  have oini := hts (.initialized RX8) (by decide +kernel)
  have osta := hts (.static yX8_outside) (by decide +kernel)
  have f16 := hts (.fieldLink RX4 16 "PenniesAway$Reader" "taken" "I") (by decide +kernel)
  have hl : lv_has ls 3 [(0, .ref (uR 0)), (1, .int a1), (2, .int a2)] := hl
  have hre : ∀ (x : Int32) (τR : MS) (τT : MS) (pc : Nat) (ls : Array Slot) (H : Heap) (locs : List Loc), (some (x, τR, τT) : Option (Int32 × MS × MS)) = some (r, σR', σT') → va_P D vwCl (xR uR uT cI cB cR cM cJ τR ++ xT uT cI cB cR cM cJ τT) H → va_D A (xR uR uT cI cB cR cM cJ τR ++ xT uT cI cB cR cM cJ τT) → va_S A s.heap H locs → decode cX4_takeNumber pc = .ok (.ireturn, 1) → narrow .boolean (.int x) = .int x → W p l e R s m args below meth c H locs 0 0 Q (F0 m pc ls [.int x]) := by intro x τR τT pc ls H locs he; cases he; exact hret pc ls H locs
  unfold FR_takeNumber at hf
  refine lv_aload_n hx hb dX4_takeNumber_0 rfl (lv_at hl 0 rfl) ?_
  refine Rg_0 S hinX4 hK hP 0 rfl f10 dX4_takeNumber_1 ?_
  refine Tg_2 S hinX7 hK hP 1 rfl f47 dX4_takeNumber_4 ?_
  refine lv_iconst (v := 2) hx hb dX4_takeNumber_7 (by decide) ?_
  refine lv_icmp_eq (tgt := 17) hx hb dX4_takeNumber_8 (by decide) (fun c1 => ?_) (fun c1 => ?_)
  · have hf := (if_pos c1).symm.trans hf
    refine lv_aload_n hx hb dX4_takeNumber_17 rfl (lv_at hl 0 rfl) ?_
    refine Rg_0 S hinX4 hK hP 0 rfl f10 dX4_takeNumber_18 ?_
    refine Tg_4 S hinX7 hK hP 1 rfl f86 dX4_takeNumber_21 ?_
    refine lv_iload_n hx hb dX4_takeNumber_24 rfl (lv_at hl 1 rfl) ?_
    refine lv_iload_n hx hb dX4_takeNumber_25 rfl (lv_at hl 2 rfl) ?_
    obtain ⟨r2, hr2, hf⟩ := bi_some hf
    refine kz_n (n := 3) S hRf hRl hK hA hZ hP hD hS hl [.int (σT.1 4), .int a1, .int a2] [] (kP_outside l D cI cB cR cM cJ t [] (σT.1 4) a1 a2 r2 hr2) hZ.1.2.2.2 gX4_takeNumber_X8_outside_n126 rfl oini osta (by decide +kernel) rfl ⟨by decide, by decide⟩ rfl (Nat.le_of_ble_eq_true rfl) dX4_takeNumber_26 (fun H locs hP hD hS => ?_)
    replace hP : va_P D vwCl (xR uR uT cI cB cR cM cJ σR ++ xT uT cI cB cR cM cJ σT) H := hP
    replace hD : va_D A (xR uR uT cI cB cR cM cJ σR ++ xT uT cI cB cR cM cJ σT) := hD
    refine W.eq (g2 := F0 m 29 ls [.int r2]) rfl ?_
    refine lv_if_eq (tgt := 38) hx hb dX4_takeNumber_29 (by decide) (fun c3 => ?_) (fun c3 => ?_)
    · have hf := (if_pos c3).symm.trans hf
      refine lv_aload_n hx hb dX4_takeNumber_38 rfl (lv_at hl 0 rfl) ?_
      refine lv_aload_n hx hb dX4_takeNumber_39 rfl (lv_at hl 0 rfl) ?_
      refine Rg_0 S hinX4 hK hP 0 rfl f10 dX4_takeNumber_40 ?_
      refine Tg_4 S hinX7 hK hP 1 rfl f86 dX4_takeNumber_43 ?_
      refine Rp_1 S hinX4 hK hP hD hS 0 rfl f16 dX4_takeNumber_46 (fun H locs hP hD hS => ?_)
      obtain ⟨σ4, eσ4, hf⟩ := nm_some hf
      replace hP : va_P D vwCl (xR uR uT cI cB cR cM cJ σ4 ++ xT uT cI cB cR cM cJ σT) H := by rw [eσ4]; exact hP
      replace hD : va_D A (xR uR uT cI cB cR cM cJ σ4 ++ xT uT cI cB cR cM cJ σT) := by rw [eσ4]; exact hD
      refine lv_aload_n hx hb dX4_takeNumber_49 rfl (lv_at hl 0 rfl) ?_
      refine Rg_0 S hinX4 hK hP 0 rfl f10 dX4_takeNumber_50 ?_
      obtain ⟨σ6, hr5, hf⟩ := bi_some hf
      refine kz_v (ci := 6) (q0 := 0) (n := 0) S hRf hRl hK hA hZ hP hD hS hl [1, 2] [] [] (kT_step l D uT cI cB cR cM cJ t σT σ6 hr5) rfl rfl rfl gX4_takeNumber_X7_step rfl (by decide +kernel) rfl ⟨by decide, by decide⟩ rfl rfl rfl rfl (Nat.le_of_ble_eq_true rfl) dX4_takeNumber_53 (fun H locs hP hD hS => ?_)
      replace hP : va_P D vwCl (xR uR uT cI cB cR cM cJ σ4 ++ xT uT cI cB cR cM cJ σ6) H := hP
      replace hD : va_D A (xR uR uT cI cB cR cM cJ σ4 ++ xT uT cI cB cR cM cJ σ6) := hD
      refine W.eq (g2 := F0 m 56 ls []) rfl ?_
      refine lv_iconst (v := 1) hx hb dX4_takeNumber_56 (by decide) ?_
      exact hre _ _ _ _ _ _ _ hf hP hD hS dX4_takeNumber_57 rfl
    · have hf := (if_neg c3).symm.trans hf
      refine lv_aload_n hx hb dX4_takeNumber_32 rfl (lv_at hl 0 rfl) ?_
      refine lv_iconst (v := 2) hx hb dX4_takeNumber_33 (by decide) ?_
      obtain ⟨r7, σ8, hr7, hf⟩ := bd2_some hf
      refine kz_v (ci := 3) (q0 := 0) (n := 1) S hRf hRl hK hA hZ hP hD hS hl [0, 1, 2] [.int 2] [] (kR_faulty l D uR uT cI cB cR cM cJ t σR σT 2 r7 σ8 hr7) rfl rfl rfl gX4_takeNumber_X4_faulty rfl (by decide +kernel) rfl ⟨by decide, by decide⟩ rfl rfl rfl rfl (Nat.le_of_ble_eq_true rfl) dX4_takeNumber_34 (fun H locs hP hD hS => ?_)
      replace hP : va_P D vwCl (xR uR uT cI cB cR cM cJ σ8 ++ xT uT cI cB cR cM cJ σT) H := hP
      replace hD : va_D A (xR uR uT cI cB cR cM cJ σ8 ++ xT uT cI cB cR cM cJ σT) := hD
      refine W.eq (g2 := F0 m 37 ls [.int r7]) rfl ?_
      obtain ⟨g9, hf⟩ := gd_some hf
      exact hre _ _ _ _ _ _ _ hf hP hD hS dX4_takeNumber_37 (by rcases g9 with g9 | g9 <;> (rw [g9]; rfl))
  · have hf := (if_neg c1).symm.trans hf
    refine lv_aload_n hx hb dX4_takeNumber_11 rfl (lv_at hl 0 rfl) ?_
    refine lv_iconst (v := 1) hx hb dX4_takeNumber_12 (by decide) ?_
    obtain ⟨r10, σ11, hr10, hf⟩ := bd2_some hf
    refine kz_v (ci := 3) (q0 := 0) (n := 1) S hRf hRl hK hA hZ hP hD hS hl [0, 1, 2] [.int 1] [] (kR_faulty l D uR uT cI cB cR cM cJ t σR σT 1 r10 σ11 hr10) rfl rfl rfl gX4_takeNumber_X4_faulty rfl (by decide +kernel) rfl ⟨by decide, by decide⟩ rfl rfl rfl rfl (Nat.le_of_ble_eq_true rfl) dX4_takeNumber_13 (fun H locs hP hD hS => ?_)
    replace hP : va_P D vwCl (xR uR uT cI cB cR cM cJ σ11 ++ xT uT cI cB cR cM cJ σT) H := hP
    replace hD : va_D A (xR uR uT cI cB cR cM cJ σ11 ++ xT uT cI cB cR cM cJ σT) := hD
    refine W.eq (g2 := F0 m 16 ls [.int r10]) rfl ?_
    obtain ⟨g12, hf⟩ := gd_some hf
    exact hre _ _ _ _ _ _ _ hf hP hD hS dX4_takeNumber_16 (by rcases g12 with g12 | g12 <;> (rw [g12]; rfl))
def FR_takeSign (σR : MS) (σT : MS) : Option (Int32 × MS × MS) :=
  if (σT.1 2) = 3 then (Option.bind (FT_step σT) fun (σ3 : MS) => some (1, σR, σ3)) else (bd2 (FR_faulty σR σT 1) fun (r4 : Int32) (σ5 : MS) => gd (r4 = 0 ∨ r4 = 1) (some (r4, σ5, σT)))
set_option maxHeartbeats 4000000 in
set_option maxRecDepth 100000 in
theorem kR_takeSign (l : Launch) (D : va_G) (uR uT : Nat → Nat) (cI cB cR cM cJ : ClassId) (t : Nat → Nat) (σR : MS) (σT : MS) (r : Int32) (σR' : MS) (σT' : MS) (hf : FR_takeSign σR σT = some (r, σR', σT')) : KZ l D (ctys cI cB cR cM cJ) t yX4_takeSign wsX4_takeSign 2 42 [.ref (uR 0)] (xR uR uT cI cB cR cM cJ σR ++ xT uT cI cB cR cM cJ σT) (some (.int r)) (xR uR uT cI cB cR cM cJ σR' ++ xT uT cI cB cR cM cJ σT') := by
  refine KZ.ofZ (own := RX4) (cc := cX4_takeSign) (maxL := 1) (by decide) rfl rfl (Nat.le_of_ble_eq_true rfl) ?_
  intro p e s m args below meth c R Q A ls S hRf hRl hK hA hP hD hS hl hZ hret
  obtain ⟨hx, hb, hml, hown, hts⟩ := id S
  have f10 := hts (.fieldLink RX4 10 "PenniesAway$Reader" "text" "LPenniesAway$Tape;") (by decide +kernel)
  have hinX4 : ∀ w ∈ wsX40, w ∈ wsX4_takeSign := fun w hw => List.mem_cons_of_mem _ (List.mem_append_left _ (List.mem_append_right _ hw))
  have f47 := hts (.fieldLink RX4 47 "PenniesAway$Tape" "sort" "I") (by decide +kernel)
  have hinX7 : ∀ w ∈ wsX70, w ∈ wsX4_takeSign := fun w hw => List.mem_cons_of_mem _ (List.mem_append_right _ hw)
  have hl : lv_has ls 1 [(0, .ref (uR 0))] := hl
  have hre : ∀ (x : Int32) (τR : MS) (τT : MS) (pc : Nat) (ls : Array Slot) (H : Heap) (locs : List Loc), (some (x, τR, τT) : Option (Int32 × MS × MS)) = some (r, σR', σT') → va_P D vwCl (xR uR uT cI cB cR cM cJ τR ++ xT uT cI cB cR cM cJ τT) H → va_D A (xR uR uT cI cB cR cM cJ τR ++ xT uT cI cB cR cM cJ τT) → va_S A s.heap H locs → decode cX4_takeSign pc = .ok (.ireturn, 1) → narrow .boolean (.int x) = .int x → W p l e R s m args below meth c H locs 0 0 Q (F0 m pc ls [.int x]) := by intro x τR τT pc ls H locs he; cases he; exact hret pc ls H locs
  unfold FR_takeSign at hf
  refine lv_aload_n hx hb dX4_takeSign_0 rfl (lv_at hl 0 rfl) ?_
  refine Rg_0 S hinX4 hK hP 0 rfl f10 dX4_takeSign_1 ?_
  refine Tg_2 S hinX7 hK hP 1 rfl f47 dX4_takeSign_4 ?_
  refine lv_iconst (v := 3) hx hb dX4_takeSign_7 (by decide) ?_
  refine lv_icmp_eq (tgt := 17) hx hb dX4_takeSign_8 (by decide) (fun c1 => ?_) (fun c1 => ?_)
  · have hf := (if_pos c1).symm.trans hf
    refine lv_aload_n hx hb dX4_takeSign_17 rfl (lv_at hl 0 rfl) ?_
    refine Rg_0 S hinX4 hK hP 0 rfl f10 dX4_takeSign_18 ?_
    obtain ⟨σ3, hr2, hf⟩ := bi_some hf
    refine kz_v (ci := 6) (q0 := 0) (n := 0) S hRf hRl hK hA hZ hP hD hS hl [1, 2] [] [] (kT_step l D uT cI cB cR cM cJ t σT σ3 hr2) rfl rfl rfl gX4_takeSign_X7_step rfl (by decide +kernel) rfl ⟨by decide, by decide⟩ rfl rfl rfl rfl (Nat.le_of_ble_eq_true rfl) dX4_takeSign_21 (fun H locs hP hD hS => ?_)
    replace hP : va_P D vwCl (xR uR uT cI cB cR cM cJ σR ++ xT uT cI cB cR cM cJ σ3) H := hP
    replace hD : va_D A (xR uR uT cI cB cR cM cJ σR ++ xT uT cI cB cR cM cJ σ3) := hD
    refine W.eq (g2 := F0 m 24 ls []) rfl ?_
    refine lv_iconst (v := 1) hx hb dX4_takeSign_24 (by decide) ?_
    exact hre _ _ _ _ _ _ _ hf hP hD hS dX4_takeSign_25 rfl
  · have hf := (if_neg c1).symm.trans hf
    refine lv_aload_n hx hb dX4_takeSign_11 rfl (lv_at hl 0 rfl) ?_
    refine lv_iconst (v := 1) hx hb dX4_takeSign_12 (by decide) ?_
    obtain ⟨r4, σ5, hr4, hf⟩ := bd2_some hf
    refine kz_v (ci := 3) (q0 := 0) (n := 1) S hRf hRl hK hA hZ hP hD hS hl [0, 1, 2] [.int 1] [] (kR_faulty l D uR uT cI cB cR cM cJ t σR σT 1 r4 σ5 hr4) rfl rfl rfl gX4_takeSign_X4_faulty rfl (by decide +kernel) rfl ⟨by decide, by decide⟩ rfl rfl rfl rfl (Nat.le_of_ble_eq_true rfl) dX4_takeSign_13 (fun H locs hP hD hS => ?_)
    replace hP : va_P D vwCl (xR uR uT cI cB cR cM cJ σ5 ++ xT uT cI cB cR cM cJ σT) H := hP
    replace hD : va_D A (xR uR uT cI cB cR cM cJ σ5 ++ xT uT cI cB cR cM cJ σT) := hD
    refine W.eq (g2 := F0 m 16 ls [.int r4]) rfl ?_
    obtain ⟨g6, hf⟩ := gd_some hf
    exact hre _ _ _ _ _ _ _ hf hP hD hS dX4_takeSign_16 (by rcases g6 with g6 | g6 <;> (rw [g6]; rfl))
def FR_readLaw (σR : MS) (σT : MS) (σL : MS) : Option (Int32 × MS × MS × MS) :=
  Option.bind (FT_isWord σT 0) fun (r1 : Int32) => if r1 = 0 then (bd2 (FR_faulty σR σT 1) fun (r14 : Int32) (σ15 : MS) => gd (r14 = 0 ∨ r14 = 1) (some (r14, σ15, σT, σL))) else (Option.bind (FT_step σT) fun (σ4 : MS) => bd3 (FR_takeNumber σR σ4 1 400) fun (r5 : Int32) (σ6 : MS) (σ7 : MS) => if r5 = 0 then (some (0, σ6, σ7, σL)) else (nm (setF σL 5 (σ6.1 1)) fun (σ9 : MS) => bd3 (FR_takeSign σ6 σ7) fun (r10 : Int32) (σ11 : MS) (σ12 : MS) => gd (r10 = 0 ∨ r10 = 1) (some (r10, σ11, σ12, σ9))))
set_option maxHeartbeats 4000000 in
set_option maxRecDepth 100000 in
theorem kR_readLaw (l : Launch) (D : va_G) (uR uT uL : Nat → Nat) (cI cB cR cM cJ : ClassId) (t : Nat → Nat) (σR : MS) (σT : MS) (σL : MS) (r : Int32) (σR' : MS) (σT' : MS) (σL' : MS) (hf : FR_readLaw σR σT σL = some (r, σR', σT', σL')) : KZ l D (ctys cI cB cR cM cJ) t yX4_readLaw wsX4_readLaw 5 107 [.ref (uR 0), .ref (uL 0)] (xR uR uT cI cB cR cM cJ σR ++ xT uT cI cB cR cM cJ σT ++ xL uL cI cB cR cM cJ σL) (some (.int r)) (xR uR uT cI cB cR cM cJ σR' ++ xT uT cI cB cR cM cJ σT' ++ xL uL cI cB cR cM cJ σL') := by
  refine KZ.ofZ (own := RX4) (cc := cX4_readLaw) (maxL := 2) (by decide) rfl rfl (Nat.le_of_ble_eq_true rfl) ?_
  intro p e s m args below meth c R Q A ls S hRf hRl hK hA hP hD hS hl hZ hret
  obtain ⟨hx, hb, hml, hown, hts⟩ := id S
  have f10 := hts (.fieldLink RX4 10 "PenniesAway$Reader" "text" "LPenniesAway$Tape;") (by decide +kernel)
  have hinX4 : ∀ w ∈ wsX40, w ∈ wsX4_readLaw := fun w hw => List.mem_cons_of_mem _ (List.mem_append_left _ (List.mem_append_left _ (List.mem_append_right _ hw)))
  have f16 := hts (.fieldLink RX4 16 "PenniesAway$Reader" "taken" "I") (by decide +kernel)
  have f74 := hts (.fieldLink RX4 74 "PenniesAway$Realm" "leave" "I") (by decide +kernel)
  have hinX5 : ∀ w ∈ wsX50, w ∈ wsX4_readLaw := fun w hw => List.mem_cons_of_mem _ (List.mem_append_left _ (List.mem_append_right _ hw))
  have hl : lv_has ls 2 [(0, .ref (uR 0)), (1, .ref (uL 0))] := hl
  have hre : ∀ (x : Int32) (τR : MS) (τT : MS) (τL : MS) (pc : Nat) (ls : Array Slot) (H : Heap) (locs : List Loc), (some (x, τR, τT, τL) : Option (Int32 × MS × MS × MS)) = some (r, σR', σT', σL') → va_P D vwCl (xR uR uT cI cB cR cM cJ τR ++ xT uT cI cB cR cM cJ τT ++ xL uL cI cB cR cM cJ τL) H → va_D A (xR uR uT cI cB cR cM cJ τR ++ xT uT cI cB cR cM cJ τT ++ xL uL cI cB cR cM cJ τL) → va_S A s.heap H locs → decode cX4_readLaw pc = .ok (.ireturn, 1) → narrow .boolean (.int x) = .int x → W p l e R s m args below meth c H locs 0 0 Q (F0 m pc ls [.int x]) := by intro x τR τT τL pc ls H locs he; cases he; exact hret pc ls H locs
  unfold FR_readLaw at hf
  refine lv_aload_n hx hb dX4_readLaw_0 rfl (lv_at hl 0 rfl) ?_
  refine Rg_0 S hinX4 hK hP 0 rfl f10 dX4_readLaw_1 ?_
  refine va_ldcS hx hb hown hZ.2.2.2.1 dX4_readLaw_4 ?_
  obtain ⟨r1, hr1, hf⟩ := bi_some hf
  refine kz_v (ci := 6) (q0 := 0) (n := 1) S hRf hRl hK hA hZ hP hD hS hl [1, 2] [.ref (t 10)] [] (kT_isWord l D uT cI cB cR cM cJ t σT 0 r1 hr1) rfl rfl rfl gX4_readLaw_X7_isWord rfl (by decide +kernel) rfl ⟨by decide, by decide⟩ rfl rfl rfl rfl (Nat.le_of_ble_eq_true rfl) dX4_readLaw_6 (fun H locs hP hD hS => ?_)
  replace hP : va_P D vwCl (xR uR uT cI cB cR cM cJ σR ++ xT uT cI cB cR cM cJ σT ++ xL uL cI cB cR cM cJ σL) H := hP
  replace hD : va_D A (xR uR uT cI cB cR cM cJ σR ++ xT uT cI cB cR cM cJ σT ++ xL uL cI cB cR cM cJ σL) := hD
  refine W.eq (g2 := F0 m 9 ls [.int r1]) rfl ?_
  refine lv_if_ne (tgt := 18) hx hb dX4_readLaw_9 (by decide) (fun c2 => ?_) (fun c2 => ?_)
  · have hf := (if_neg c2).symm.trans hf
    refine lv_aload_n hx hb dX4_readLaw_18 rfl (lv_at hl 0 rfl) ?_
    refine Rg_0 S hinX4 hK hP 0 rfl f10 dX4_readLaw_19 ?_
    obtain ⟨σ4, hr3, hf⟩ := bi_some hf
    refine kz_v (ci := 6) (q0 := 0) (n := 0) S hRf hRl hK hA hZ hP hD hS hl [1, 2] [] [] (kT_step l D uT cI cB cR cM cJ t σT σ4 hr3) rfl rfl rfl gX4_readLaw_X7_step rfl (by decide +kernel) rfl ⟨by decide, by decide⟩ rfl rfl rfl rfl (Nat.le_of_ble_eq_true rfl) dX4_readLaw_22 (fun H locs hP hD hS => ?_)
    replace hP : va_P D vwCl (xR uR uT cI cB cR cM cJ σR ++ xT uT cI cB cR cM cJ σ4 ++ xL uL cI cB cR cM cJ σL) H := hP
    replace hD : va_D A (xR uR uT cI cB cR cM cJ σR ++ xT uT cI cB cR cM cJ σ4 ++ xL uL cI cB cR cM cJ σL) := hD
    refine W.eq (g2 := F0 m 25 ls []) rfl ?_
    refine lv_aload_n hx hb dX4_readLaw_25 rfl (lv_at hl 0 rfl) ?_
    refine lv_iconst (v := 1) hx hb dX4_readLaw_26 (by decide) ?_
    refine lv_sipush (v := 400) hx hb dX4_readLaw_27 (by decide) ?_
    obtain ⟨r5, σ6, σ7, hr5, hf⟩ := bd3_some hf
    refine kz_v (ci := 3) (q0 := 0) (n := 2) S hRf hRl hK hA hZ hP hD hS hl [0, 1, 2] [.int 1, .int 400] [] (kR_takeNumber l D uR uT cI cB cR cM cJ t σR σ4 1 400 r5 σ6 σ7 hr5) rfl rfl rfl gX4_readLaw_X4_takeNumber rfl (by decide +kernel) rfl ⟨by decide, by decide⟩ rfl rfl rfl rfl (Nat.le_of_ble_eq_true rfl) dX4_readLaw_30 (fun H locs hP hD hS => ?_)
    replace hP : va_P D vwCl (xR uR uT cI cB cR cM cJ σ6 ++ xT uT cI cB cR cM cJ σ7 ++ xL uL cI cB cR cM cJ σL) H := hP
    replace hD : va_D A (xR uR uT cI cB cR cM cJ σ6 ++ xT uT cI cB cR cM cJ σ7 ++ xL uL cI cB cR cM cJ σL) := hD
    refine W.eq (g2 := F0 m 33 ls [.int r5]) rfl ?_
    refine lv_if_ne (tgt := 38) hx hb dX4_readLaw_33 (by decide) (fun c8 => ?_) (fun c8 => ?_)
    · have hf := (if_neg c8).symm.trans hf
      refine lv_aload_n hx hb dX4_readLaw_38 rfl (lv_at hl 1 rfl) ?_
      refine lv_aload_n hx hb dX4_readLaw_39 rfl (lv_at hl 0 rfl) ?_
      refine Rg_1 S hinX4 hK hP 0 rfl f16 dX4_readLaw_40 ?_
      refine Lp_5 S hinX5 hK hP hD hS 3 rfl f74 dX4_readLaw_43 (fun H locs hP hD hS => ?_)
      obtain ⟨σ9, eσ9, hf⟩ := nm_some hf
      replace hP : va_P D vwCl (xR uR uT cI cB cR cM cJ σ6 ++ xT uT cI cB cR cM cJ σ7 ++ xL uL cI cB cR cM cJ σ9) H := by rw [eσ9]; exact hP
      replace hD : va_D A (xR uR uT cI cB cR cM cJ σ6 ++ xT uT cI cB cR cM cJ σ7 ++ xL uL cI cB cR cM cJ σ9) := by rw [eσ9]; exact hD
      refine lv_aload_n hx hb dX4_readLaw_46 rfl (lv_at hl 0 rfl) ?_
      obtain ⟨r10, σ11, σ12, hr10, hf⟩ := bd3_some hf
      refine kz_v (ci := 3) (q0 := 0) (n := 0) S hRf hRl hK hA hZ hP hD hS hl [0, 1, 2] [] [] (kR_takeSign l D uR uT cI cB cR cM cJ t σ6 σ7 r10 σ11 σ12 hr10) rfl rfl rfl gX4_readLaw_X4_takeSign rfl (by decide +kernel) rfl ⟨by decide, by decide⟩ rfl rfl rfl rfl (Nat.le_of_ble_eq_true rfl) dX4_readLaw_47 (fun H locs hP hD hS => ?_)
      replace hP : va_P D vwCl (xR uR uT cI cB cR cM cJ σ11 ++ xT uT cI cB cR cM cJ σ12 ++ xL uL cI cB cR cM cJ σ9) H := hP
      replace hD : va_D A (xR uR uT cI cB cR cM cJ σ11 ++ xT uT cI cB cR cM cJ σ12 ++ xL uL cI cB cR cM cJ σ9) := hD
      refine W.eq (g2 := F0 m 50 ls [.int r10]) rfl ?_
      obtain ⟨g13, hf⟩ := gd_some hf
      exact hre _ _ _ _ _ _ _ _ hf hP hD hS dX4_readLaw_50 (by rcases g13 with g13 | g13 <;> (rw [g13]; rfl))
    · have hf := (if_pos c8).symm.trans hf
      refine lv_iconst (v := 0) hx hb dX4_readLaw_36 (by decide) ?_
      exact hre _ _ _ _ _ _ _ _ hf hP hD hS dX4_readLaw_37 rfl
  · have hf := (if_pos c2).symm.trans hf
    refine lv_aload_n hx hb dX4_readLaw_12 rfl (lv_at hl 0 rfl) ?_
    refine lv_iconst (v := 1) hx hb dX4_readLaw_13 (by decide) ?_
    obtain ⟨r14, σ15, hr14, hf⟩ := bd2_some hf
    refine kz_v (ci := 3) (q0 := 0) (n := 1) S hRf hRl hK hA hZ hP hD hS hl [0, 1, 2] [.int 1] [] (kR_faulty l D uR uT cI cB cR cM cJ t σR σT 1 r14 σ15 hr14) rfl rfl rfl gX4_readLaw_X4_faulty rfl (by decide +kernel) rfl ⟨by decide, by decide⟩ rfl rfl rfl rfl (Nat.le_of_ble_eq_true rfl) dX4_readLaw_14 (fun H locs hP hD hS => ?_)
    replace hP : va_P D vwCl (xR uR uT cI cB cR cM cJ σ15 ++ xT uT cI cB cR cM cJ σT ++ xL uL cI cB cR cM cJ σL) H := hP
    replace hD : va_D A (xR uR uT cI cB cR cM cJ σ15 ++ xT uT cI cB cR cM cJ σT ++ xL uL cI cB cR cM cJ σL) := hD
    refine W.eq (g2 := F0 m 17 ls [.int r14]) rfl ?_
    obtain ⟨g16, hf⟩ := gd_some hf
    exact hre _ _ _ _ _ _ _ _ hf hP hD hS dX4_readLaw_17 (by rcases g16 with g16 | g16 <;> (rw [g16]; rfl))
def FR_readRoad_45 (σR : MS) (σT : MS) (σL : MS) (l2 : Int32) : Option (Int32 × MS × MS × MS) :=
  bd3 (FR_takeNumber σR σT 0 7) fun (r11 : Int32) (σ12 : MS) (σ13 : MS) => if r11 = 0 then (some (0, σ12, σ13, σL)) else (nm (σ12.1 1) fun (x15 : Int32) => bd3 (FR_takeNumber σ12 σ13 1 90) fun (r16 : Int32) (σ17 : MS) (σ18 : MS) => if r16 = 0 then (some (0, σ17, σ18, σL)) else (Option.bind (FL_addRoad σL l2 x15 (σ17.1 1)) fun (σ21 : MS) => bd3 (FR_takeSign σ17 σ18) fun (r22 : Int32) (σ23 : MS) (σ24 : MS) => gd (r22 = 0 ∨ r22 = 1) (some (r22, σ23, σ24, σ21))))
def FR_readRoad (σR : MS) (σT : MS) (σL : MS) : Option (Int32 × MS × MS × MS) :=
  bd3 (FR_takeNumber σR σT 0 7) fun (r1 : Int32) (σ2 : MS) (σ3 : MS) => if r1 = 0 then (some (0, σ2, σ3, σL)) else (nm (σ2.1 1) fun (x5 : Int32) => if (σ3.1 2) = 2 then (if (σ3.1 4) = x5 then (bd2 (FR_faulty σ2 σ3 2) fun (r8 : Int32) (σ9 : MS) => gd (r8 = 0 ∨ r8 = 1) (some (r8, σ9, σ3, σL))) else (FR_readRoad_45 σ2 σ3 σL x5)) else (FR_readRoad_45 σ2 σ3 σL x5))
set_option maxHeartbeats 4000000 in
set_option maxRecDepth 100000 in
theorem kR_readRoad (l : Launch) (D : va_G) (uR uT uL : Nat → Nat) (cI cB cR cM cJ : ClassId) (t : Nat → Nat) (σR : MS) (σT : MS) (σL : MS) (r : Int32) (σR' : MS) (σT' : MS) (σL' : MS) (hf : FR_readRoad σR σT σL = some (r, σR', σT', σL')) : KZ l D (ctys cI cB cR cM cJ) t yX4_readRoad wsX4_readRoad 3 64 [.ref (uR 0), .ref (uL 0)] (xR uR uT cI cB cR cM cJ σR ++ xT uT cI cB cR cM cJ σT ++ xL uL cI cB cR cM cJ σL) (some (.int r)) (xR uR uT cI cB cR cM cJ σR' ++ xT uT cI cB cR cM cJ σT' ++ xL uL cI cB cR cM cJ σL') := by
  refine KZ.ofZ (own := RX4) (cc := cX4_readRoad) (maxL := 4) (by decide) rfl rfl (Nat.le_of_ble_eq_true rfl) ?_
  intro p e s m args below meth c R Q A ls S hRf hRl hK hA hP hD hS hl hZ hret
  obtain ⟨hx, hb, hml, hown, hts⟩ := id S
  have f16 := hts (.fieldLink RX4 16 "PenniesAway$Reader" "taken" "I") (by decide +kernel)
  have hinX4 : ∀ w ∈ wsX40, w ∈ wsX4_readRoad := fun w hw => List.mem_cons_of_mem _ (List.mem_append_left _ (List.mem_append_left _ (List.mem_append_right _ hw)))
  have f10 := hts (.fieldLink RX4 10 "PenniesAway$Reader" "text" "LPenniesAway$Tape;") (by decide +kernel)
  have f47 := hts (.fieldLink RX4 47 "PenniesAway$Tape" "sort" "I") (by decide +kernel)
  have hinX7 : ∀ w ∈ wsX70, w ∈ wsX4_readRoad := fun w hw => List.mem_cons_of_mem _ (List.mem_append_left _ (List.mem_append_right _ hw))
  have f86 := hts (.fieldLink RX4 86 "PenniesAway$Tape" "number" "I") (by decide +kernel)
  have hl : lv_has ls 4 [(0, .ref (uR 0)), (1, .ref (uL 0))] := hl
  have hre : ∀ (x : Int32) (τR : MS) (τT : MS) (τL : MS) (pc : Nat) (ls : Array Slot) (H : Heap) (locs : List Loc), (some (x, τR, τT, τL) : Option (Int32 × MS × MS × MS)) = some (r, σR', σT', σL') → va_P D vwCl (xR uR uT cI cB cR cM cJ τR ++ xT uT cI cB cR cM cJ τT ++ xL uL cI cB cR cM cJ τL) H → va_D A (xR uR uT cI cB cR cM cJ τR ++ xT uT cI cB cR cM cJ τT ++ xL uL cI cB cR cM cJ τL) → va_S A s.heap H locs → decode cX4_readRoad pc = .ok (.ireturn, 1) → narrow .boolean (.int x) = .int x → W p l e R s m args below meth c H locs 0 0 Q (F0 m pc ls [.int x]) := by intro x τR τT τL pc ls H locs he; cases he; exact hret pc ls H locs
  have b45 : ∀ (σR : MS) (σT : MS) (σL : MS) (l2 : Int32) (ls : Array Slot) (H : Heap) (locs : List Loc), FR_readRoad_45 σR σT σL l2 = some (r, σR', σT', σL') → lv_has ls 4 [(0, .ref (uR 0)), (1, .ref (uL 0)), (2, .int l2)] → va_P D vwCl (xR uR uT cI cB cR cM cJ σR ++ xT uT cI cB cR cM cJ σT ++ xL uL cI cB cR cM cJ σL) H → va_D A (xR uR uT cI cB cR cM cJ σR ++ xT uT cI cB cR cM cJ σT ++ xL uL cI cB cR cM cJ σL) → va_S A s.heap H locs → W p l e R s m args below meth c H locs 0 0 Q (F0 m 45 ls []) := by
    intro σR σT σL l2 ls H locs hf hl hP hD hS
    unfold FR_readRoad_45 at hf
    refine lv_aload_n hx hb dX4_readRoad_45 rfl (lv_at hl 0 rfl) ?_
    refine lv_iconst (v := 0) hx hb dX4_readRoad_46 (by decide) ?_
    refine lv_bipush (v := 7) hx hb dX4_readRoad_47 (by decide) ?_
    obtain ⟨r11, σ12, σ13, hr11, hf⟩ := bd3_some hf
    refine kz_v (ci := 3) (q0 := 0) (n := 2) S hRf hRl hK hA hZ hP hD hS hl [0, 1, 2] [.int 0, .int 7] [] (kR_takeNumber l D uR uT cI cB cR cM cJ t σR σT 0 7 r11 σ12 σ13 hr11) rfl rfl rfl gX4_readRoad_X4_takeNumber rfl (by decide +kernel) rfl ⟨by decide, by decide⟩ rfl rfl rfl rfl (Nat.le_of_ble_eq_true rfl) dX4_readRoad_49 (fun H locs hP hD hS => ?_)
    replace hP : va_P D vwCl (xR uR uT cI cB cR cM cJ σ12 ++ xT uT cI cB cR cM cJ σ13 ++ xL uL cI cB cR cM cJ σL) H := hP
    replace hD : va_D A (xR uR uT cI cB cR cM cJ σ12 ++ xT uT cI cB cR cM cJ σ13 ++ xL uL cI cB cR cM cJ σL) := hD
    refine W.eq (g2 := F0 m 52 ls [.int r11]) rfl ?_
    refine lv_if_ne (tgt := 57) hx hb dX4_readRoad_52 (by decide) (fun c14 => ?_) (fun c14 => ?_)
    · have hf := (if_neg c14).symm.trans hf
      refine lv_aload_n hx hb dX4_readRoad_57 rfl (lv_at hl 0 rfl) ?_
      refine Rg_1 S hinX4 hK hP 0 rfl f16 dX4_readRoad_58 ?_
      refine lv_topi (fun x15 ex15 => ?_)
      have hf := nm_at ex15 hf
      refine lv_istore_n (lv' := [(3, .int x15), (0, .ref (uR 0)), (1, .ref (uL 0)), (2, .int l2)]) hx hb dX4_readRoad_61 rfl hl (by decide) rfl (fun ls hl => ?_)
      refine lv_aload_n hx hb dX4_readRoad_62 rfl (lv_at hl 1 rfl) ?_
      refine lv_iconst (v := 1) hx hb dX4_readRoad_63 (by decide) ?_
      refine lv_bipush (v := 90) hx hb dX4_readRoad_64 (by decide) ?_
      obtain ⟨r16, σ17, σ18, hr16, hf⟩ := bd3_some hf
      refine kz_v (ci := 3) (q0 := 0) (n := 2) S hRf hRl hK hA hZ hP hD hS hl [0, 1, 2] [.int 1, .int 90] [] (kR_takeNumber l D uR uT cI cB cR cM cJ t σ12 σ13 1 90 r16 σ17 σ18 hr16) rfl rfl rfl gX4_readRoad_X4_takeNumber rfl (by decide +kernel) rfl ⟨by decide, by decide⟩ rfl rfl rfl rfl (Nat.le_of_ble_eq_true rfl) dX4_readRoad_66 (fun H locs hP hD hS => ?_)
      replace hP : va_P D vwCl (xR uR uT cI cB cR cM cJ σ17 ++ xT uT cI cB cR cM cJ σ18 ++ xL uL cI cB cR cM cJ σL) H := hP
      replace hD : va_D A (xR uR uT cI cB cR cM cJ σ17 ++ xT uT cI cB cR cM cJ σ18 ++ xL uL cI cB cR cM cJ σL) := hD
      refine W.eq (g2 := F0 m 69 ls [.int r16]) rfl ?_
      refine lv_if_ne (tgt := 74) hx hb dX4_readRoad_69 (by decide) (fun c19 => ?_) (fun c19 => ?_)
      · have hf := (if_neg c19).symm.trans hf
        refine lv_aload_n hx hb dX4_readRoad_74 rfl (lv_at hl 2 rfl) ?_
        refine lv_iload_n hx hb dX4_readRoad_75 rfl (lv_at hl 3 rfl) ?_
        refine lv_iload_n hx hb dX4_readRoad_76 rfl (lv_at hl 0 rfl) ?_
        refine lv_aload_n hx hb dX4_readRoad_77 rfl (lv_at hl 1 rfl) ?_
        refine Rg_1 S hinX4 hK hP 0 rfl f16 dX4_readRoad_78 ?_
        obtain ⟨σ21, hr20, hf⟩ := bi_some hf
        refine kz_v (ci := 4) (q0 := 0) (n := 3) S hRf hRl hK hA hZ hP hD hS hl [3, 4, 5, 6, 7] [.int l2, .int x15, .int (σ17.1 1)] [] (kL_addRoad l D uL cI cB cR cM cJ t σL l2 x15 (σ17.1 1) σ21 hr20) rfl rfl rfl gX4_readRoad_X5_addRoad rfl (by decide +kernel) rfl ⟨by decide, by decide⟩ rfl rfl rfl rfl (Nat.le_of_ble_eq_true rfl) dX4_readRoad_81 (fun H locs hP hD hS => ?_)
        replace hP : va_P D vwCl (xR uR uT cI cB cR cM cJ σ17 ++ xT uT cI cB cR cM cJ σ18 ++ xL uL cI cB cR cM cJ σ21) H := hP
        replace hD : va_D A (xR uR uT cI cB cR cM cJ σ17 ++ xT uT cI cB cR cM cJ σ18 ++ xL uL cI cB cR cM cJ σ21) := hD
        refine W.eq (g2 := F0 m 84 ls []) rfl ?_
        refine lv_aload_n hx hb dX4_readRoad_84 rfl (lv_at hl 1 rfl) ?_
        obtain ⟨r22, σ23, σ24, hr22, hf⟩ := bd3_some hf
        refine kz_v (ci := 3) (q0 := 0) (n := 0) S hRf hRl hK hA hZ hP hD hS hl [0, 1, 2] [] [] (kR_takeSign l D uR uT cI cB cR cM cJ t σ17 σ18 r22 σ23 σ24 hr22) rfl rfl rfl gX4_readRoad_X4_takeSign rfl (by decide +kernel) rfl ⟨by decide, by decide⟩ rfl rfl rfl rfl (Nat.le_of_ble_eq_true rfl) dX4_readRoad_85 (fun H locs hP hD hS => ?_)
        replace hP : va_P D vwCl (xR uR uT cI cB cR cM cJ σ23 ++ xT uT cI cB cR cM cJ σ24 ++ xL uL cI cB cR cM cJ σ21) H := hP
        replace hD : va_D A (xR uR uT cI cB cR cM cJ σ23 ++ xT uT cI cB cR cM cJ σ24 ++ xL uL cI cB cR cM cJ σ21) := hD
        refine W.eq (g2 := F0 m 88 ls [.int r22]) rfl ?_
        obtain ⟨g25, hf⟩ := gd_some hf
        exact hre _ _ _ _ _ _ _ _ hf hP hD hS dX4_readRoad_88 (by rcases g25 with g25 | g25 <;> (rw [g25]; rfl))
      · have hf := (if_pos c19).symm.trans hf
        refine lv_iconst (v := 0) hx hb dX4_readRoad_72 (by decide) ?_
        exact hre _ _ _ _ _ _ _ _ hf hP hD hS dX4_readRoad_73 rfl
    · have hf := (if_pos c14).symm.trans hf
      refine lv_iconst (v := 0) hx hb dX4_readRoad_55 (by decide) ?_
      exact hre _ _ _ _ _ _ _ _ hf hP hD hS dX4_readRoad_56 rfl
  unfold FR_readRoad at hf
  refine lv_aload_n hx hb dX4_readRoad_0 rfl (lv_at hl 0 rfl) ?_
  refine lv_iconst (v := 0) hx hb dX4_readRoad_1 (by decide) ?_
  refine lv_bipush (v := 7) hx hb dX4_readRoad_2 (by decide) ?_
  obtain ⟨r1, σ2, σ3, hr1, hf⟩ := bd3_some hf
  refine kz_v (ci := 3) (q0 := 0) (n := 2) S hRf hRl hK hA hZ hP hD hS hl [0, 1, 2] [.int 0, .int 7] [] (kR_takeNumber l D uR uT cI cB cR cM cJ t σR σT 0 7 r1 σ2 σ3 hr1) rfl rfl rfl gX4_readRoad_X4_takeNumber rfl (by decide +kernel) rfl ⟨by decide, by decide⟩ rfl rfl rfl rfl (Nat.le_of_ble_eq_true rfl) dX4_readRoad_4 (fun H locs hP hD hS => ?_)
  replace hP : va_P D vwCl (xR uR uT cI cB cR cM cJ σ2 ++ xT uT cI cB cR cM cJ σ3 ++ xL uL cI cB cR cM cJ σL) H := hP
  replace hD : va_D A (xR uR uT cI cB cR cM cJ σ2 ++ xT uT cI cB cR cM cJ σ3 ++ xL uL cI cB cR cM cJ σL) := hD
  refine W.eq (g2 := F0 m 7 ls [.int r1]) rfl ?_
  refine lv_if_ne (tgt := 12) hx hb dX4_readRoad_7 (by decide) (fun c4 => ?_) (fun c4 => ?_)
  · have hf := (if_neg c4).symm.trans hf
    refine lv_aload_n hx hb dX4_readRoad_12 rfl (lv_at hl 0 rfl) ?_
    refine Rg_1 S hinX4 hK hP 0 rfl f16 dX4_readRoad_13 ?_
    refine lv_topi (fun x5 ex5 => ?_)
    have hf := nm_at ex5 hf
    refine lv_istore_n (lv' := [(2, .int x5), (0, .ref (uR 0)), (1, .ref (uL 0))]) hx hb dX4_readRoad_16 rfl hl (by decide) rfl (fun ls hl => ?_)
    refine lv_aload_n hx hb dX4_readRoad_17 rfl (lv_at hl 1 rfl) ?_
    refine Rg_0 S hinX4 hK hP 0 rfl f10 dX4_readRoad_18 ?_
    refine Tg_2 S hinX7 hK hP 1 rfl f47 dX4_readRoad_21 ?_
    refine lv_iconst (v := 2) hx hb dX4_readRoad_24 (by decide) ?_
    refine lv_icmp_ne (tgt := 45) hx hb dX4_readRoad_25 (by decide) (fun c6 => ?_) (fun c6 => ?_)
    · have hf := (if_neg c6).symm.trans hf
      exact b45 _ _ _ _ _ _ _ hf (lv_sub hl [1, 2, 0] rfl) hP hD hS
    · have hf := (if_pos c6).symm.trans hf
      refine lv_aload_n hx hb dX4_readRoad_28 rfl (lv_at hl 1 rfl) ?_
      refine Rg_0 S hinX4 hK hP 0 rfl f10 dX4_readRoad_29 ?_
      refine Tg_4 S hinX7 hK hP 1 rfl f86 dX4_readRoad_32 ?_
      refine lv_iload_n hx hb dX4_readRoad_35 rfl (lv_at hl 0 rfl) ?_
      refine lv_icmp_ne (tgt := 45) hx hb dX4_readRoad_36 (by decide) (fun c7 => ?_) (fun c7 => ?_)
      · have hf := (if_neg c7).symm.trans hf
        exact b45 _ _ _ _ _ _ _ hf (lv_sub hl [1, 2, 0] rfl) hP hD hS
      · have hf := (if_pos c7).symm.trans hf
        refine lv_aload_n hx hb dX4_readRoad_39 rfl (lv_at hl 1 rfl) ?_
        refine lv_iconst (v := 2) hx hb dX4_readRoad_40 (by decide) ?_
        obtain ⟨r8, σ9, hr8, hf⟩ := bd2_some hf
        refine kz_v (ci := 3) (q0 := 0) (n := 1) S hRf hRl hK hA hZ hP hD hS hl [0, 1, 2] [.int 2] [] (kR_faulty l D uR uT cI cB cR cM cJ t σ2 σ3 2 r8 σ9 hr8) rfl rfl rfl gX4_readRoad_X4_faulty rfl (by decide +kernel) rfl ⟨by decide, by decide⟩ rfl rfl rfl rfl (Nat.le_of_ble_eq_true rfl) dX4_readRoad_41 (fun H locs hP hD hS => ?_)
        replace hP : va_P D vwCl (xR uR uT cI cB cR cM cJ σ9 ++ xT uT cI cB cR cM cJ σ3 ++ xL uL cI cB cR cM cJ σL) H := hP
        replace hD : va_D A (xR uR uT cI cB cR cM cJ σ9 ++ xT uT cI cB cR cM cJ σ3 ++ xL uL cI cB cR cM cJ σL) := hD
        refine W.eq (g2 := F0 m 44 ls [.int r8]) rfl ?_
        obtain ⟨g10, hf⟩ := gd_some hf
        exact hre _ _ _ _ _ _ _ _ hf hP hD hS dX4_readRoad_44 (by rcases g10 with g10 | g10 <;> (rw [g10]; rfl))
  · have hf := (if_pos c4).symm.trans hf
    refine lv_iconst (v := 0) hx hb dX4_readRoad_10 (by decide) ?_
    exact hre _ _ _ _ _ _ _ _ hf hP hD hS dX4_readRoad_11 rfl
def FR_readRoads_2 : Nat → MS → MS → MS → Int32 → Option (Int32 × MS × MS × MS)
  | 0, _, _, _, _ => none
  | n + 1, σR, σT, σL, l2 => if 14 < l2 then (some (1, σR, σT, σL)) else (Option.bind (FT_isWord σT 1) fun (r2 : Int32) => if r2 = 0 then (some (1, σR, σT, σL)) else (if l2 = 14 then (bd2 (FR_faulty σR σT 3) fun (r13 : Int32) (σ14 : MS) => gd (r13 = 0 ∨ r13 = 1) (some (r13, σ14, σT, σL))) else (Option.bind (FT_step σT) fun (σ6 : MS) => bd4 (FR_readRoad σR σ6 σL) fun (r7 : Int32) (σ8 : MS) (σ9 : MS) (σ10 : MS) => if r7 = 0 then (some (0, σ8, σ9, σ10)) else (nm (l2 + 1) fun (x12 : Int32) => (FR_readRoads_2 n) σ8 σ9 σ10 x12))))
def FR_readRoads (σR : MS) (σT : MS) (σL : MS) : Option (Int32 × MS × MS × MS) :=
  FR_readRoads_2 fuelN σR σT σL 0
set_option maxHeartbeats 4000000 in
set_option maxRecDepth 100000 in
theorem kR_readRoads (l : Launch) (D : va_G) (uR uT uL : Nat → Nat) (cI cB cR cM cJ : ClassId) (t : Nat → Nat) (σR : MS) (σT : MS) (σL : MS) (r : Int32) (σR' : MS) (σT' : MS) (σL' : MS) (hf : FR_readRoads σR σT σL = some (r, σR', σT', σL')) : KZ l D (ctys cI cB cR cM cJ) t yX4_readRoads wsX4_readRoads 5 107 [.ref (uR 0), .ref (uL 0)] (xR uR uT cI cB cR cM cJ σR ++ xT uT cI cB cR cM cJ σT ++ xL uL cI cB cR cM cJ σL) (some (.int r)) (xR uR uT cI cB cR cM cJ σR' ++ xT uT cI cB cR cM cJ σT' ++ xL uL cI cB cR cM cJ σL') := by
  refine KZ.ofZ (own := RX4) (cc := cX4_readRoads) (maxL := 3) (by decide) rfl rfl (Nat.le_of_ble_eq_true rfl) ?_
  intro p e s m args below meth c R Q A ls S hRf hRl hK hA hP hD hS hl hZ hret
  obtain ⟨hx, hb, hml, hown, hts⟩ := id S
  have f10 := hts (.fieldLink RX4 10 "PenniesAway$Reader" "text" "LPenniesAway$Tape;") (by decide +kernel)
  have hinX4 : ∀ w ∈ wsX40, w ∈ wsX4_readRoads := fun w hw => List.mem_cons_of_mem _ (List.mem_append_left _ (List.mem_append_left _ (List.mem_append_right _ hw)))
  have hl : lv_has ls 3 [(0, .ref (uR 0)), (1, .ref (uL 0))] := hl
  have hre : ∀ (x : Int32) (τR : MS) (τT : MS) (τL : MS) (pc : Nat) (ls : Array Slot) (H : Heap) (locs : List Loc), (some (x, τR, τT, τL) : Option (Int32 × MS × MS × MS)) = some (r, σR', σT', σL') → va_P D vwCl (xR uR uT cI cB cR cM cJ τR ++ xT uT cI cB cR cM cJ τT ++ xL uL cI cB cR cM cJ τL) H → va_D A (xR uR uT cI cB cR cM cJ τR ++ xT uT cI cB cR cM cJ τT ++ xL uL cI cB cR cM cJ τL) → va_S A s.heap H locs → decode cX4_readRoads pc = .ok (.ireturn, 1) → narrow .boolean (.int x) = .int x → W p l e R s m args below meth c H locs 0 0 Q (F0 m pc ls [.int x]) := by intro x τR τT τL pc ls H locs he; cases he; exact hret pc ls H locs
  have b2 : ∀ (n : Nat), ∀ (σR : MS) (σT : MS) (σL : MS) (l2 : Int32) (ls : Array Slot) (H : Heap) (locs : List Loc), FR_readRoads_2 n σR σT σL l2 = some (r, σR', σT', σL') → lv_has ls 3 [(0, .ref (uR 0)), (1, .ref (uL 0)), (2, .int l2)] → va_P D vwCl (xR uR uT cI cB cR cM cJ σR ++ xT uT cI cB cR cM cJ σT ++ xL uL cI cB cR cM cJ σL) H → va_D A (xR uR uT cI cB cR cM cJ σR ++ xT uT cI cB cR cM cJ σT ++ xL uL cI cB cR cM cJ σL) → va_S A s.heap H locs → W p l e R s m args below meth c H locs 0 0 Q (F0 m 2 ls []) := by
    intro n
    induction n with
    | zero => intro σR σT σL l2 ls H locs hf; exact absurd hf (by simp [FR_readRoads_2])
    | succ n ih =>
      intro σR σT σL l2 ls H locs hf hl hP hD hS
      rw [FR_readRoads_2] at hf
      refine lv_iload_n hx hb dX4_readRoads_2 rfl (lv_at hl 2 rfl) ?_
      refine lv_bipush (v := 14) hx hb dX4_readRoads_3 (by decide) ?_
      refine lv_icmp_gt (tgt := 55) hx hb dX4_readRoads_5 (by decide) (fun c1 => ?_) (fun c1 => ?_)
      · have hf := (if_pos c1).symm.trans hf
        refine lv_iconst (v := 1) hx hb dX4_readRoads_55 (by decide) ?_
        exact hre _ _ _ _ _ _ _ _ hf hP hD hS dX4_readRoads_56 rfl
      · have hf := (if_neg c1).symm.trans hf
        refine lv_aload_n hx hb dX4_readRoads_8 rfl (lv_at hl 0 rfl) ?_
        refine Rg_0 S hinX4 hK hP 0 rfl f10 dX4_readRoads_9 ?_
        refine va_ldcS hx hb hown hZ.2.2.2.2.1 dX4_readRoads_12 ?_
        obtain ⟨r2, hr2, hf⟩ := bi_some hf
        refine kz_v (ci := 6) (q0 := 0) (n := 1) S hRf hRl hK hA hZ hP hD hS hl [1, 2] [.ref (t 11)] [] (kT_isWord l D uT cI cB cR cM cJ t σT 1 r2 hr2) rfl rfl rfl gX4_readRoads_X7_isWord rfl (by decide +kernel) rfl ⟨by decide, by decide⟩ rfl rfl rfl rfl (Nat.le_of_ble_eq_true rfl) dX4_readRoads_14 (fun H locs hP hD hS => ?_)
        replace hP : va_P D vwCl (xR uR uT cI cB cR cM cJ σR ++ xT uT cI cB cR cM cJ σT ++ xL uL cI cB cR cM cJ σL) H := hP
        replace hD : va_D A (xR uR uT cI cB cR cM cJ σR ++ xT uT cI cB cR cM cJ σT ++ xL uL cI cB cR cM cJ σL) := hD
        refine W.eq (g2 := F0 m 17 ls [.int r2]) rfl ?_
        refine lv_if_eq (tgt := 55) hx hb dX4_readRoads_17 (by decide) (fun c3 => ?_) (fun c3 => ?_)
        · have hf := (if_pos c3).symm.trans hf
          refine lv_iconst (v := 1) hx hb dX4_readRoads_55 (by decide) ?_
          exact hre _ _ _ _ _ _ _ _ hf hP hD hS dX4_readRoads_56 rfl
        · have hf := (if_neg c3).symm.trans hf
          refine lv_iload_n hx hb dX4_readRoads_20 rfl (lv_at hl 2 rfl) ?_
          refine lv_bipush (v := 14) hx hb dX4_readRoads_21 (by decide) ?_
          refine lv_icmp_ne (tgt := 32) hx hb dX4_readRoads_23 (by decide) (fun c4 => ?_) (fun c4 => ?_)
          · have hf := (if_neg c4).symm.trans hf
            refine lv_aload_n hx hb dX4_readRoads_32 rfl (lv_at hl 0 rfl) ?_
            refine Rg_0 S hinX4 hK hP 0 rfl f10 dX4_readRoads_33 ?_
            obtain ⟨σ6, hr5, hf⟩ := bi_some hf
            refine kz_v (ci := 6) (q0 := 0) (n := 0) S hRf hRl hK hA hZ hP hD hS hl [1, 2] [] [] (kT_step l D uT cI cB cR cM cJ t σT σ6 hr5) rfl rfl rfl gX4_readRoads_X7_step rfl (by decide +kernel) rfl ⟨by decide, by decide⟩ rfl rfl rfl rfl (Nat.le_of_ble_eq_true rfl) dX4_readRoads_36 (fun H locs hP hD hS => ?_)
            replace hP : va_P D vwCl (xR uR uT cI cB cR cM cJ σR ++ xT uT cI cB cR cM cJ σ6 ++ xL uL cI cB cR cM cJ σL) H := hP
            replace hD : va_D A (xR uR uT cI cB cR cM cJ σR ++ xT uT cI cB cR cM cJ σ6 ++ xL uL cI cB cR cM cJ σL) := hD
            refine W.eq (g2 := F0 m 39 ls []) rfl ?_
            refine lv_aload_n hx hb dX4_readRoads_39 rfl (lv_at hl 0 rfl) ?_
            refine lv_aload_n hx hb dX4_readRoads_40 rfl (lv_at hl 1 rfl) ?_
            obtain ⟨r7, σ8, σ9, σ10, hr7, hf⟩ := bd4_some hf
            refine kz_v (ci := 3) (q0 := 0) (n := 1) S hRf hRl hK hA hZ hP hD hS hl [0, 1, 2, 3, 4, 5, 6, 7] [.ref (uL 0)] [] (kR_readRoad l D uR uT uL cI cB cR cM cJ t σR σ6 σL r7 σ8 σ9 σ10 hr7) rfl rfl rfl gX4_readRoads_X4_readRoad rfl (by decide +kernel) rfl ⟨by decide, by decide⟩ rfl rfl rfl rfl (Nat.le_of_ble_eq_true rfl) dX4_readRoads_41 (fun H locs hP hD hS => ?_)
            replace hP : va_P D vwCl (xR uR uT cI cB cR cM cJ σ8 ++ xT uT cI cB cR cM cJ σ9 ++ xL uL cI cB cR cM cJ σ10) H := hP
            replace hD : va_D A (xR uR uT cI cB cR cM cJ σ8 ++ xT uT cI cB cR cM cJ σ9 ++ xL uL cI cB cR cM cJ σ10) := hD
            refine W.eq (g2 := F0 m 44 ls [.int r7]) rfl ?_
            refine lv_if_ne (tgt := 49) hx hb dX4_readRoads_44 (by decide) (fun c11 => ?_) (fun c11 => ?_)
            · have hf := (if_neg c11).symm.trans hf
              obtain ⟨x12, ex12, hf⟩ := nm_some hf
              refine lv_iinc (v := x12) (lv' := [(2, .int x12), (0, .ref (uR 0)), (1, .ref (uL 0))]) hx hb dX4_readRoads_49 hl (k := 2) rfl (by rw [ex12]; rfl) (by decide) rfl (fun ls hl => ?_)
              refine lv_goto (tgt := 2) hx hb dX4_readRoads_52 (by decide) ?_
              exact ih _ _ _ _ _ _ _ hf (lv_sub hl [1, 2, 0] rfl) hP hD hS
            · have hf := (if_pos c11).symm.trans hf
              refine lv_iconst (v := 0) hx hb dX4_readRoads_47 (by decide) ?_
              exact hre _ _ _ _ _ _ _ _ hf hP hD hS dX4_readRoads_48 rfl
          · have hf := (if_pos c4).symm.trans hf
            refine lv_aload_n hx hb dX4_readRoads_26 rfl (lv_at hl 0 rfl) ?_
            refine lv_iconst (v := 3) hx hb dX4_readRoads_27 (by decide) ?_
            obtain ⟨r13, σ14, hr13, hf⟩ := bd2_some hf
            refine kz_v (ci := 3) (q0 := 0) (n := 1) S hRf hRl hK hA hZ hP hD hS hl [0, 1, 2] [.int 3] [] (kR_faulty l D uR uT cI cB cR cM cJ t σR σT 3 r13 σ14 hr13) rfl rfl rfl gX4_readRoads_X4_faulty rfl (by decide +kernel) rfl ⟨by decide, by decide⟩ rfl rfl rfl rfl (Nat.le_of_ble_eq_true rfl) dX4_readRoads_28 (fun H locs hP hD hS => ?_)
            replace hP : va_P D vwCl (xR uR uT cI cB cR cM cJ σ14 ++ xT uT cI cB cR cM cJ σT ++ xL uL cI cB cR cM cJ σL) H := hP
            replace hD : va_D A (xR uR uT cI cB cR cM cJ σ14 ++ xT uT cI cB cR cM cJ σT ++ xL uL cI cB cR cM cJ σL) := hD
            refine W.eq (g2 := F0 m 31 ls [.int r13]) rfl ?_
            obtain ⟨g15, hf⟩ := gd_some hf
            exact hre _ _ _ _ _ _ _ _ hf hP hD hS dX4_readRoads_31 (by rcases g15 with g15 | g15 <;> (rw [g15]; rfl))
  unfold FR_readRoads at hf
  refine lv_iconst (v := 0) hx hb dX4_readRoads_0 (by decide) ?_
  refine lv_istore_n (lv' := [(2, .int 0), (0, .ref (uR 0)), (1, .ref (uL 0))]) hx hb dX4_readRoads_1 rfl hl (by decide) rfl (fun ls hl => ?_)
  exact b2 fuelN _ _ _ _ _ _ _ hf (lv_sub hl [1, 2, 0] rfl) hP hD hS
def FR_readHolders_2 : Nat → MS → MS → MS → Int32 → Option (Int32 × MS × MS × MS)
  | 0, _, _, _, _ => none
  | n + 1, σR, σT, σL, l2 => if 6 < l2 then (some (1, σR, σT, σL)) else (Option.bind (FT_isWord σT 2) fun (r2 : Int32) => if r2 = 0 then (some (1, σR, σT, σL)) else (if l2 = 6 then (bd2 (FR_faulty σR σT 3) fun (r18 : Int32) (σ19 : MS) => gd (r18 = 0 ∨ r18 = 1) (some (r18, σ19, σT, σL))) else (Option.bind (FT_step σT) fun (σ6 : MS) => bd3 (FR_takeNumber σR σ6 1 7) fun (r7 : Int32) (σ8 : MS) (σ9 : MS) => if r7 = 0 then (some (0, σ8, σ9, σL)) else (Option.bind (FL_addHolder σL (σ8.1 1)) fun (σ12 : MS) => bd3 (FR_takeSign σ8 σ9) fun (r13 : Int32) (σ14 : MS) (σ15 : MS) => if r13 = 0 then (some (0, σ14, σ15, σ12)) else (nm (l2 + 1) fun (x17 : Int32) => (FR_readHolders_2 n) σ14 σ15 σ12 x17)))))
def FR_readHolders (σR : MS) (σT : MS) (σL : MS) : Option (Int32 × MS × MS × MS) :=
  FR_readHolders_2 fuelN σR σT σL 0
set_option maxHeartbeats 4000000 in
set_option maxRecDepth 100000 in
theorem kR_readHolders (l : Launch) (D : va_G) (uR uT uL : Nat → Nat) (cI cB cR cM cJ : ClassId) (t : Nat → Nat) (σR : MS) (σT : MS) (σL : MS) (r : Int32) (σR' : MS) (σT' : MS) (σL' : MS) (hf : FR_readHolders σR σT σL = some (r, σR', σT', σL')) : KZ l D (ctys cI cB cR cM cJ) t yX4_readHolders wsX4_readHolders 5 107 [.ref (uR 0), .ref (uL 0)] (xR uR uT cI cB cR cM cJ σR ++ xT uT cI cB cR cM cJ σT ++ xL uL cI cB cR cM cJ σL) (some (.int r)) (xR uR uT cI cB cR cM cJ σR' ++ xT uT cI cB cR cM cJ σT' ++ xL uL cI cB cR cM cJ σL') := by
  refine KZ.ofZ (own := RX4) (cc := cX4_readHolders) (maxL := 3) (by decide) rfl rfl (Nat.le_of_ble_eq_true rfl) ?_
  intro p e s m args below meth c R Q A ls S hRf hRl hK hA hP hD hS hl hZ hret
  obtain ⟨hx, hb, hml, hown, hts⟩ := id S
  have f10 := hts (.fieldLink RX4 10 "PenniesAway$Reader" "text" "LPenniesAway$Tape;") (by decide +kernel)
  have hinX4 : ∀ w ∈ wsX40, w ∈ wsX4_readHolders := fun w hw => List.mem_cons_of_mem _ (List.mem_append_left _ (List.mem_append_left _ (List.mem_append_right _ hw)))
  have f16 := hts (.fieldLink RX4 16 "PenniesAway$Reader" "taken" "I") (by decide +kernel)
  have hl : lv_has ls 3 [(0, .ref (uR 0)), (1, .ref (uL 0))] := hl
  have hre : ∀ (x : Int32) (τR : MS) (τT : MS) (τL : MS) (pc : Nat) (ls : Array Slot) (H : Heap) (locs : List Loc), (some (x, τR, τT, τL) : Option (Int32 × MS × MS × MS)) = some (r, σR', σT', σL') → va_P D vwCl (xR uR uT cI cB cR cM cJ τR ++ xT uT cI cB cR cM cJ τT ++ xL uL cI cB cR cM cJ τL) H → va_D A (xR uR uT cI cB cR cM cJ τR ++ xT uT cI cB cR cM cJ τT ++ xL uL cI cB cR cM cJ τL) → va_S A s.heap H locs → decode cX4_readHolders pc = .ok (.ireturn, 1) → narrow .boolean (.int x) = .int x → W p l e R s m args below meth c H locs 0 0 Q (F0 m pc ls [.int x]) := by intro x τR τT τL pc ls H locs he; cases he; exact hret pc ls H locs
  have b2 : ∀ (n : Nat), ∀ (σR : MS) (σT : MS) (σL : MS) (l2 : Int32) (ls : Array Slot) (H : Heap) (locs : List Loc), FR_readHolders_2 n σR σT σL l2 = some (r, σR', σT', σL') → lv_has ls 3 [(0, .ref (uR 0)), (1, .ref (uL 0)), (2, .int l2)] → va_P D vwCl (xR uR uT cI cB cR cM cJ σR ++ xT uT cI cB cR cM cJ σT ++ xL uL cI cB cR cM cJ σL) H → va_D A (xR uR uT cI cB cR cM cJ σR ++ xT uT cI cB cR cM cJ σT ++ xL uL cI cB cR cM cJ σL) → va_S A s.heap H locs → W p l e R s m args below meth c H locs 0 0 Q (F0 m 2 ls []) := by
    intro n
    induction n with
    | zero => intro σR σT σL l2 ls H locs hf; exact absurd hf (by simp [FR_readHolders_2])
    | succ n ih =>
      intro σR σT σL l2 ls H locs hf hl hP hD hS
      rw [FR_readHolders_2] at hf
      refine lv_iload_n hx hb dX4_readHolders_2 rfl (lv_at hl 2 rfl) ?_
      refine lv_bipush (v := 6) hx hb dX4_readHolders_3 (by decide) ?_
      refine lv_icmp_gt (tgt := 74) hx hb dX4_readHolders_5 (by decide) (fun c1 => ?_) (fun c1 => ?_)
      · have hf := (if_pos c1).symm.trans hf
        refine lv_iconst (v := 1) hx hb dX4_readHolders_74 (by decide) ?_
        exact hre _ _ _ _ _ _ _ _ hf hP hD hS dX4_readHolders_75 rfl
      · have hf := (if_neg c1).symm.trans hf
        refine lv_aload_n hx hb dX4_readHolders_8 rfl (lv_at hl 0 rfl) ?_
        refine Rg_0 S hinX4 hK hP 0 rfl f10 dX4_readHolders_9 ?_
        refine va_ldcS hx hb hown hZ.2.2.2.2.2.1 dX4_readHolders_12 ?_
        obtain ⟨r2, hr2, hf⟩ := bi_some hf
        refine kz_v (ci := 6) (q0 := 0) (n := 1) S hRf hRl hK hA hZ hP hD hS hl [1, 2] [.ref (t 12)] [] (kT_isWord l D uT cI cB cR cM cJ t σT 2 r2 hr2) rfl rfl rfl gX4_readHolders_X7_isWord rfl (by decide +kernel) rfl ⟨by decide, by decide⟩ rfl rfl rfl rfl (Nat.le_of_ble_eq_true rfl) dX4_readHolders_14 (fun H locs hP hD hS => ?_)
        replace hP : va_P D vwCl (xR uR uT cI cB cR cM cJ σR ++ xT uT cI cB cR cM cJ σT ++ xL uL cI cB cR cM cJ σL) H := hP
        replace hD : va_D A (xR uR uT cI cB cR cM cJ σR ++ xT uT cI cB cR cM cJ σT ++ xL uL cI cB cR cM cJ σL) := hD
        refine W.eq (g2 := F0 m 17 ls [.int r2]) rfl ?_
        refine lv_if_eq (tgt := 74) hx hb dX4_readHolders_17 (by decide) (fun c3 => ?_) (fun c3 => ?_)
        · have hf := (if_pos c3).symm.trans hf
          refine lv_iconst (v := 1) hx hb dX4_readHolders_74 (by decide) ?_
          exact hre _ _ _ _ _ _ _ _ hf hP hD hS dX4_readHolders_75 rfl
        · have hf := (if_neg c3).symm.trans hf
          refine lv_iload_n hx hb dX4_readHolders_20 rfl (lv_at hl 2 rfl) ?_
          refine lv_bipush (v := 6) hx hb dX4_readHolders_21 (by decide) ?_
          refine lv_icmp_ne (tgt := 32) hx hb dX4_readHolders_23 (by decide) (fun c4 => ?_) (fun c4 => ?_)
          · have hf := (if_neg c4).symm.trans hf
            refine lv_aload_n hx hb dX4_readHolders_32 rfl (lv_at hl 0 rfl) ?_
            refine Rg_0 S hinX4 hK hP 0 rfl f10 dX4_readHolders_33 ?_
            obtain ⟨σ6, hr5, hf⟩ := bi_some hf
            refine kz_v (ci := 6) (q0 := 0) (n := 0) S hRf hRl hK hA hZ hP hD hS hl [1, 2] [] [] (kT_step l D uT cI cB cR cM cJ t σT σ6 hr5) rfl rfl rfl gX4_readHolders_X7_step rfl (by decide +kernel) rfl ⟨by decide, by decide⟩ rfl rfl rfl rfl (Nat.le_of_ble_eq_true rfl) dX4_readHolders_36 (fun H locs hP hD hS => ?_)
            replace hP : va_P D vwCl (xR uR uT cI cB cR cM cJ σR ++ xT uT cI cB cR cM cJ σ6 ++ xL uL cI cB cR cM cJ σL) H := hP
            replace hD : va_D A (xR uR uT cI cB cR cM cJ σR ++ xT uT cI cB cR cM cJ σ6 ++ xL uL cI cB cR cM cJ σL) := hD
            refine W.eq (g2 := F0 m 39 ls []) rfl ?_
            refine lv_aload_n hx hb dX4_readHolders_39 rfl (lv_at hl 0 rfl) ?_
            refine lv_iconst (v := 1) hx hb dX4_readHolders_40 (by decide) ?_
            refine lv_bipush (v := 7) hx hb dX4_readHolders_41 (by decide) ?_
            obtain ⟨r7, σ8, σ9, hr7, hf⟩ := bd3_some hf
            refine kz_v (ci := 3) (q0 := 0) (n := 2) S hRf hRl hK hA hZ hP hD hS hl [0, 1, 2] [.int 1, .int 7] [] (kR_takeNumber l D uR uT cI cB cR cM cJ t σR σ6 1 7 r7 σ8 σ9 hr7) rfl rfl rfl gX4_readHolders_X4_takeNumber rfl (by decide +kernel) rfl ⟨by decide, by decide⟩ rfl rfl rfl rfl (Nat.le_of_ble_eq_true rfl) dX4_readHolders_43 (fun H locs hP hD hS => ?_)
            replace hP : va_P D vwCl (xR uR uT cI cB cR cM cJ σ8 ++ xT uT cI cB cR cM cJ σ9 ++ xL uL cI cB cR cM cJ σL) H := hP
            replace hD : va_D A (xR uR uT cI cB cR cM cJ σ8 ++ xT uT cI cB cR cM cJ σ9 ++ xL uL cI cB cR cM cJ σL) := hD
            refine W.eq (g2 := F0 m 46 ls [.int r7]) rfl ?_
            refine lv_if_ne (tgt := 51) hx hb dX4_readHolders_46 (by decide) (fun c10 => ?_) (fun c10 => ?_)
            · have hf := (if_neg c10).symm.trans hf
              refine lv_aload_n hx hb dX4_readHolders_51 rfl (lv_at hl 1 rfl) ?_
              refine lv_aload_n hx hb dX4_readHolders_52 rfl (lv_at hl 0 rfl) ?_
              refine Rg_1 S hinX4 hK hP 0 rfl f16 dX4_readHolders_53 ?_
              obtain ⟨σ12, hr11, hf⟩ := bi_some hf
              refine kz_v (ci := 4) (q0 := 0) (n := 1) S hRf hRl hK hA hZ hP hD hS hl [3, 4, 5, 6, 7] [.int (σ8.1 1)] [] (kL_addHolder l D uL cI cB cR cM cJ t σL (σ8.1 1) σ12 hr11) rfl rfl rfl gX4_readHolders_X5_addHolder rfl (by decide +kernel) rfl ⟨by decide, by decide⟩ rfl rfl rfl rfl (Nat.le_of_ble_eq_true rfl) dX4_readHolders_56 (fun H locs hP hD hS => ?_)
              replace hP : va_P D vwCl (xR uR uT cI cB cR cM cJ σ8 ++ xT uT cI cB cR cM cJ σ9 ++ xL uL cI cB cR cM cJ σ12) H := hP
              replace hD : va_D A (xR uR uT cI cB cR cM cJ σ8 ++ xT uT cI cB cR cM cJ σ9 ++ xL uL cI cB cR cM cJ σ12) := hD
              refine W.eq (g2 := F0 m 59 ls []) rfl ?_
              refine lv_aload_n hx hb dX4_readHolders_59 rfl (lv_at hl 0 rfl) ?_
              obtain ⟨r13, σ14, σ15, hr13, hf⟩ := bd3_some hf
              refine kz_v (ci := 3) (q0 := 0) (n := 0) S hRf hRl hK hA hZ hP hD hS hl [0, 1, 2] [] [] (kR_takeSign l D uR uT cI cB cR cM cJ t σ8 σ9 r13 σ14 σ15 hr13) rfl rfl rfl gX4_readHolders_X4_takeSign rfl (by decide +kernel) rfl ⟨by decide, by decide⟩ rfl rfl rfl rfl (Nat.le_of_ble_eq_true rfl) dX4_readHolders_60 (fun H locs hP hD hS => ?_)
              replace hP : va_P D vwCl (xR uR uT cI cB cR cM cJ σ14 ++ xT uT cI cB cR cM cJ σ15 ++ xL uL cI cB cR cM cJ σ12) H := hP
              replace hD : va_D A (xR uR uT cI cB cR cM cJ σ14 ++ xT uT cI cB cR cM cJ σ15 ++ xL uL cI cB cR cM cJ σ12) := hD
              refine W.eq (g2 := F0 m 63 ls [.int r13]) rfl ?_
              refine lv_if_ne (tgt := 68) hx hb dX4_readHolders_63 (by decide) (fun c16 => ?_) (fun c16 => ?_)
              · have hf := (if_neg c16).symm.trans hf
                obtain ⟨x17, ex17, hf⟩ := nm_some hf
                refine lv_iinc (v := x17) (lv' := [(2, .int x17), (0, .ref (uR 0)), (1, .ref (uL 0))]) hx hb dX4_readHolders_68 hl (k := 2) rfl (by rw [ex17]; rfl) (by decide) rfl (fun ls hl => ?_)
                refine lv_goto (tgt := 2) hx hb dX4_readHolders_71 (by decide) ?_
                exact ih _ _ _ _ _ _ _ hf (lv_sub hl [1, 2, 0] rfl) hP hD hS
              · have hf := (if_pos c16).symm.trans hf
                refine lv_iconst (v := 0) hx hb dX4_readHolders_66 (by decide) ?_
                exact hre _ _ _ _ _ _ _ _ hf hP hD hS dX4_readHolders_67 rfl
            · have hf := (if_pos c10).symm.trans hf
              refine lv_iconst (v := 0) hx hb dX4_readHolders_49 (by decide) ?_
              exact hre _ _ _ _ _ _ _ _ hf hP hD hS dX4_readHolders_50 rfl
          · have hf := (if_pos c4).symm.trans hf
            refine lv_aload_n hx hb dX4_readHolders_26 rfl (lv_at hl 0 rfl) ?_
            refine lv_iconst (v := 3) hx hb dX4_readHolders_27 (by decide) ?_
            obtain ⟨r18, σ19, hr18, hf⟩ := bd2_some hf
            refine kz_v (ci := 3) (q0 := 0) (n := 1) S hRf hRl hK hA hZ hP hD hS hl [0, 1, 2] [.int 3] [] (kR_faulty l D uR uT cI cB cR cM cJ t σR σT 3 r18 σ19 hr18) rfl rfl rfl gX4_readHolders_X4_faulty rfl (by decide +kernel) rfl ⟨by decide, by decide⟩ rfl rfl rfl rfl (Nat.le_of_ble_eq_true rfl) dX4_readHolders_28 (fun H locs hP hD hS => ?_)
            replace hP : va_P D vwCl (xR uR uT cI cB cR cM cJ σ19 ++ xT uT cI cB cR cM cJ σT ++ xL uL cI cB cR cM cJ σL) H := hP
            replace hD : va_D A (xR uR uT cI cB cR cM cJ σ19 ++ xT uT cI cB cR cM cJ σT ++ xL uL cI cB cR cM cJ σL) := hD
            refine W.eq (g2 := F0 m 31 ls [.int r18]) rfl ?_
            obtain ⟨g20, hf⟩ := gd_some hf
            exact hre _ _ _ _ _ _ _ _ hf hP hD hS dX4_readHolders_31 (by rcases g20 with g20 | g20 <;> (rw [g20]; rfl))
  unfold FR_readHolders at hf
  refine lv_iconst (v := 0) hx hb dX4_readHolders_0 (by decide) ?_
  refine lv_istore_n (lv' := [(2, .int 0), (0, .ref (uR 0)), (1, .ref (uL 0))]) hx hb dX4_readHolders_1 rfl hl (by decide) rfl (fun ls hl => ?_)
  exact b2 fuelN _ _ _ _ _ _ _ hf (lv_sub hl [1, 2, 0] rfl) hP hD hS
def FR_kindOfWord (σR : MS) (σT : MS) : Option Int32 :=
  Option.bind (FT_isWord σT 4) fun (r1 : Int32) => if r1 = 0 then (Option.bind (FT_isWord σT 5) fun (r3 : Int32) => if r3 = 0 then (Option.bind (FT_isWord σT 6) fun (r5 : Int32) => if r5 = 0 then (Option.bind (FT_isWord σT 7) fun (r7 : Int32) => if r7 = 0 then (Option.bind (FT_isWord σT 8) fun (r9 : Int32) => if r9 = 0 then (some (0)) else (some (4))) else (some (5))) else (some (3))) else (some (1))) else (some (2))
set_option maxHeartbeats 4000000 in
set_option maxRecDepth 100000 in
theorem kR_kindOfWord (l : Launch) (D : va_G) (uR uT : Nat → Nat) (cI cB cR cM cJ : ClassId) (t : Nat → Nat) (σR : MS) (σT : MS) (r : Int32) (hf : FR_kindOfWord σR σT = some (r)) : KZ l D (ctys cI cB cR cM cJ) t yX4_kindOfWord wsX4_kindOfWord 5 107 [.ref (uR 0)] (xR uR uT cI cB cR cM cJ σR ++ xT uT cI cB cR cM cJ σT) (some (.int r)) (xR uR uT cI cB cR cM cJ σR ++ xT uT cI cB cR cM cJ σT) := by
  refine KZ.ofI (own := RX4) (cc := cX4_kindOfWord) (maxL := 1) (by decide) rfl rfl (Nat.le_of_ble_eq_true rfl) ?_
  intro p e s m args below meth c R Q A ls S hRf hRl hK hA hP hD hS hl hZ hret
  obtain ⟨hx, hb, hml, hown, hts⟩ := id S
  have f10 := hts (.fieldLink RX4 10 "PenniesAway$Reader" "text" "LPenniesAway$Tape;") (by decide +kernel)
  have hinX4 : ∀ w ∈ wsX40, w ∈ wsX4_kindOfWord := fun w hw => List.mem_cons_of_mem _ (List.mem_append_left _ (List.mem_append_right _ hw))
  have hl : lv_has ls 1 [(0, .ref (uR 0))] := hl
  have hre : ∀ (x : Int32) (pc : Nat) (ls : Array Slot) (H : Heap) (locs : List Loc), (some (x) : Option Int32) = some (r) → va_P D vwCl (xR uR uT cI cB cR cM cJ σR ++ xT uT cI cB cR cM cJ σT) H → va_D A (xR uR uT cI cB cR cM cJ σR ++ xT uT cI cB cR cM cJ σT) → va_S A s.heap H locs → decode cX4_kindOfWord pc = .ok (.ireturn, 1) → W p l e R s m args below meth c H locs 0 0 Q (F0 m pc ls [.int x]) := by intro x pc ls H locs he; cases he; exact hret pc ls H locs
  unfold FR_kindOfWord at hf
  refine lv_aload_n hx hb dX4_kindOfWord_0 rfl (lv_at hl 0 rfl) ?_
  refine Rg_0 S hinX4 hK hP 0 rfl f10 dX4_kindOfWord_1 ?_
  refine va_ldcS hx hb hown hZ.2.2.2.2.2.2.2.1 dX4_kindOfWord_4 ?_
  obtain ⟨r1, hr1, hf⟩ := bi_some hf
  refine kz_v (ci := 6) (q0 := 0) (n := 1) S hRf hRl hK hA hZ hP hD hS hl [1, 2] [.ref (t 14)] [] (kT_isWord l D uT cI cB cR cM cJ t σT 4 r1 hr1) rfl rfl rfl gX4_kindOfWord_X7_isWord rfl (by decide +kernel) rfl ⟨by decide, by decide⟩ rfl rfl rfl rfl (Nat.le_of_ble_eq_true rfl) dX4_kindOfWord_6 (fun H locs hP hD hS => ?_)
  replace hP : va_P D vwCl (xR uR uT cI cB cR cM cJ σR ++ xT uT cI cB cR cM cJ σT) H := hP
  replace hD : va_D A (xR uR uT cI cB cR cM cJ σR ++ xT uT cI cB cR cM cJ σT) := hD
  refine W.eq (g2 := F0 m 9 ls [.int r1]) rfl ?_
  refine lv_if_eq (tgt := 14) hx hb dX4_kindOfWord_9 (by decide) (fun c2 => ?_) (fun c2 => ?_)
  · have hf := (if_pos c2).symm.trans hf
    refine lv_aload_n hx hb dX4_kindOfWord_14 rfl (lv_at hl 0 rfl) ?_
    refine Rg_0 S hinX4 hK hP 0 rfl f10 dX4_kindOfWord_15 ?_
    refine va_ldcS hx hb hown hZ.2.2.2.2.2.2.2.2.1 dX4_kindOfWord_18 ?_
    obtain ⟨r3, hr3, hf⟩ := bi_some hf
    refine kz_v (ci := 6) (q0 := 0) (n := 1) S hRf hRl hK hA hZ hP hD hS hl [1, 2] [.ref (t 15)] [] (kT_isWord l D uT cI cB cR cM cJ t σT 5 r3 hr3) rfl rfl rfl gX4_kindOfWord_X7_isWord rfl (by decide +kernel) rfl ⟨by decide, by decide⟩ rfl rfl rfl rfl (Nat.le_of_ble_eq_true rfl) dX4_kindOfWord_20 (fun H locs hP hD hS => ?_)
    replace hP : va_P D vwCl (xR uR uT cI cB cR cM cJ σR ++ xT uT cI cB cR cM cJ σT) H := hP
    replace hD : va_D A (xR uR uT cI cB cR cM cJ σR ++ xT uT cI cB cR cM cJ σT) := hD
    refine W.eq (g2 := F0 m 23 ls [.int r3]) rfl ?_
    refine lv_if_eq (tgt := 28) hx hb dX4_kindOfWord_23 (by decide) (fun c4 => ?_) (fun c4 => ?_)
    · have hf := (if_pos c4).symm.trans hf
      refine lv_aload_n hx hb dX4_kindOfWord_28 rfl (lv_at hl 0 rfl) ?_
      refine Rg_0 S hinX4 hK hP 0 rfl f10 dX4_kindOfWord_29 ?_
      refine va_ldcS hx hb hown hZ.2.2.2.2.2.2.2.2.2.1 dX4_kindOfWord_32 ?_
      obtain ⟨r5, hr5, hf⟩ := bi_some hf
      refine kz_v (ci := 6) (q0 := 0) (n := 1) S hRf hRl hK hA hZ hP hD hS hl [1, 2] [.ref (t 16)] [] (kT_isWord l D uT cI cB cR cM cJ t σT 6 r5 hr5) rfl rfl rfl gX4_kindOfWord_X7_isWord rfl (by decide +kernel) rfl ⟨by decide, by decide⟩ rfl rfl rfl rfl (Nat.le_of_ble_eq_true rfl) dX4_kindOfWord_34 (fun H locs hP hD hS => ?_)
      replace hP : va_P D vwCl (xR uR uT cI cB cR cM cJ σR ++ xT uT cI cB cR cM cJ σT) H := hP
      replace hD : va_D A (xR uR uT cI cB cR cM cJ σR ++ xT uT cI cB cR cM cJ σT) := hD
      refine W.eq (g2 := F0 m 37 ls [.int r5]) rfl ?_
      refine lv_if_eq (tgt := 42) hx hb dX4_kindOfWord_37 (by decide) (fun c6 => ?_) (fun c6 => ?_)
      · have hf := (if_pos c6).symm.trans hf
        refine lv_aload_n hx hb dX4_kindOfWord_42 rfl (lv_at hl 0 rfl) ?_
        refine Rg_0 S hinX4 hK hP 0 rfl f10 dX4_kindOfWord_43 ?_
        refine va_ldcS hx hb hown hZ.2.2.2.2.2.2.2.2.2.2.1 dX4_kindOfWord_46 ?_
        obtain ⟨r7, hr7, hf⟩ := bi_some hf
        refine kz_v (ci := 6) (q0 := 0) (n := 1) S hRf hRl hK hA hZ hP hD hS hl [1, 2] [.ref (t 17)] [] (kT_isWord l D uT cI cB cR cM cJ t σT 7 r7 hr7) rfl rfl rfl gX4_kindOfWord_X7_isWord rfl (by decide +kernel) rfl ⟨by decide, by decide⟩ rfl rfl rfl rfl (Nat.le_of_ble_eq_true rfl) dX4_kindOfWord_48 (fun H locs hP hD hS => ?_)
        replace hP : va_P D vwCl (xR uR uT cI cB cR cM cJ σR ++ xT uT cI cB cR cM cJ σT) H := hP
        replace hD : va_D A (xR uR uT cI cB cR cM cJ σR ++ xT uT cI cB cR cM cJ σT) := hD
        refine W.eq (g2 := F0 m 51 ls [.int r7]) rfl ?_
        refine lv_if_eq (tgt := 56) hx hb dX4_kindOfWord_51 (by decide) (fun c8 => ?_) (fun c8 => ?_)
        · have hf := (if_pos c8).symm.trans hf
          refine lv_aload_n hx hb dX4_kindOfWord_56 rfl (lv_at hl 0 rfl) ?_
          refine Rg_0 S hinX4 hK hP 0 rfl f10 dX4_kindOfWord_57 ?_
          refine va_ldcS hx hb hown hZ.2.2.2.2.2.2.2.2.2.2.2 dX4_kindOfWord_60 ?_
          obtain ⟨r9, hr9, hf⟩ := bi_some hf
          refine kz_v (ci := 6) (q0 := 0) (n := 1) S hRf hRl hK hA hZ hP hD hS hl [1, 2] [.ref (t 18)] [] (kT_isWord l D uT cI cB cR cM cJ t σT 8 r9 hr9) rfl rfl rfl gX4_kindOfWord_X7_isWord rfl (by decide +kernel) rfl ⟨by decide, by decide⟩ rfl rfl rfl rfl (Nat.le_of_ble_eq_true rfl) dX4_kindOfWord_62 (fun H locs hP hD hS => ?_)
          replace hP : va_P D vwCl (xR uR uT cI cB cR cM cJ σR ++ xT uT cI cB cR cM cJ σT) H := hP
          replace hD : va_D A (xR uR uT cI cB cR cM cJ σR ++ xT uT cI cB cR cM cJ σT) := hD
          refine W.eq (g2 := F0 m 65 ls [.int r9]) rfl ?_
          refine lv_if_eq (tgt := 72) hx hb dX4_kindOfWord_65 (by decide) (fun c10 => ?_) (fun c10 => ?_)
          · have hf := (if_pos c10).symm.trans hf
            refine lv_iconst (v := 0) hx hb dX4_kindOfWord_72 (by decide) ?_
            exact hre _ _ _ _ _ hf hP hD hS dX4_kindOfWord_73
          · have hf := (if_neg c10).symm.trans hf
            refine lv_iconst (v := 4) hx hb dX4_kindOfWord_68 (by decide) ?_
            refine lv_goto (tgt := 73) hx hb dX4_kindOfWord_69 (by decide) ?_
            exact hre _ _ _ _ _ hf hP hD hS dX4_kindOfWord_73
        · have hf := (if_neg c8).symm.trans hf
          refine lv_iconst (v := 5) hx hb dX4_kindOfWord_54 (by decide) ?_
          exact hre _ _ _ _ _ hf hP hD hS dX4_kindOfWord_55
      · have hf := (if_neg c6).symm.trans hf
        refine lv_iconst (v := 3) hx hb dX4_kindOfWord_40 (by decide) ?_
        exact hre _ _ _ _ _ hf hP hD hS dX4_kindOfWord_41
    · have hf := (if_neg c4).symm.trans hf
      refine lv_iconst (v := 1) hx hb dX4_kindOfWord_26 (by decide) ?_
      exact hre _ _ _ _ _ hf hP hD hS dX4_kindOfWord_27
  · have hf := (if_neg c2).symm.trans hf
    refine lv_iconst (v := 2) hx hb dX4_kindOfWord_12 (by decide) ?_
    exact hre _ _ _ _ _ hf hP hD hS dX4_kindOfWord_13
def FR_readCoin (σR : MS) (σT : MS) (σL : MS) : Option (Int32 × MS × MS × MS) :=
  Option.bind (FR_kindOfWord σR σT) fun (r1 : Int32) => if r1 = 0 then (bd2 (FR_faulty σR σT 1) fun (r20 : Int32) (σ21 : MS) => gd (r20 = 0 ∨ r20 = 1) (some (r20, σ21, σT, σL))) else (Option.bind (FT_step σT) fun (σ4 : MS) => bd3 (FR_takeNumber σR σ4 0 ((σL.1 6) - 1)) fun (r5 : Int32) (σ6 : MS) (σ7 : MS) => if r5 = 0 then (some (0, σ6, σ7, σL)) else (nm (σ6.1 1) fun (x9 : Int32) => bd3 (FR_takeNumber σ6 σ7 0 400) fun (r10 : Int32) (σ11 : MS) (σ12 : MS) => if r10 = 0 then (some (0, σ11, σ12, σL)) else (Option.bind (FL_addCoin σL r1 x9 (σ11.1 1)) fun (σ15 : MS) => bd3 (FR_takeSign σ11 σ12) fun (r16 : Int32) (σ17 : MS) (σ18 : MS) => gd (r16 = 0 ∨ r16 = 1) (some (r16, σ17, σ18, σ15)))))
set_option maxHeartbeats 4000000 in
set_option maxRecDepth 100000 in
theorem kR_readCoin (l : Launch) (D : va_G) (uR uT uL : Nat → Nat) (cI cB cR cM cJ : ClassId) (t : Nat → Nat) (σR : MS) (σT : MS) (σL : MS) (r : Int32) (σR' : MS) (σT' : MS) (σL' : MS) (hf : FR_readCoin σR σT σL = some (r, σR', σT', σL')) : KZ l D (ctys cI cB cR cM cJ) t yX4_readCoin wsX4_readCoin 6 127 [.ref (uR 0), .ref (uL 0)] (xR uR uT cI cB cR cM cJ σR ++ xT uT cI cB cR cM cJ σT ++ xL uL cI cB cR cM cJ σL) (some (.int r)) (xR uR uT cI cB cR cM cJ σR' ++ xT uT cI cB cR cM cJ σT' ++ xL uL cI cB cR cM cJ σL') := by
  refine KZ.ofZ (own := RX4) (cc := cX4_readCoin) (maxL := 4) (by decide) rfl rfl (Nat.le_of_ble_eq_true rfl) ?_
  intro p e s m args below meth c R Q A ls S hRf hRl hK hA hP hD hS hl hZ hret
  obtain ⟨hx, hb, hml, hown, hts⟩ := id S
  have f10 := hts (.fieldLink RX4 10 "PenniesAway$Reader" "text" "LPenniesAway$Tape;") (by decide +kernel)
  have hinX4 : ∀ w ∈ wsX40, w ∈ wsX4_readCoin := fun w hw => List.mem_cons_of_mem _ (List.mem_append_left _ (List.mem_append_left _ (List.mem_append_right _ hw)))
  have f108 := hts (.fieldLink RX4 108 "PenniesAway$Realm" "holders" "I") (by decide +kernel)
  have hinX5 : ∀ w ∈ wsX50, w ∈ wsX4_readCoin := fun w hw => List.mem_cons_of_mem _ (List.mem_append_left _ (List.mem_append_right _ hw))
  have f16 := hts (.fieldLink RX4 16 "PenniesAway$Reader" "taken" "I") (by decide +kernel)
  have hl : lv_has ls 4 [(0, .ref (uR 0)), (1, .ref (uL 0))] := hl
  have hre : ∀ (x : Int32) (τR : MS) (τT : MS) (τL : MS) (pc : Nat) (ls : Array Slot) (H : Heap) (locs : List Loc), (some (x, τR, τT, τL) : Option (Int32 × MS × MS × MS)) = some (r, σR', σT', σL') → va_P D vwCl (xR uR uT cI cB cR cM cJ τR ++ xT uT cI cB cR cM cJ τT ++ xL uL cI cB cR cM cJ τL) H → va_D A (xR uR uT cI cB cR cM cJ τR ++ xT uT cI cB cR cM cJ τT ++ xL uL cI cB cR cM cJ τL) → va_S A s.heap H locs → decode cX4_readCoin pc = .ok (.ireturn, 1) → narrow .boolean (.int x) = .int x → W p l e R s m args below meth c H locs 0 0 Q (F0 m pc ls [.int x]) := by intro x τR τT τL pc ls H locs he; cases he; exact hret pc ls H locs
  unfold FR_readCoin at hf
  refine lv_aload_n hx hb dX4_readCoin_0 rfl (lv_at hl 0 rfl) ?_
  obtain ⟨r1, hr1, hf⟩ := bi_some hf
  refine kz_v (ci := 3) (q0 := 0) (n := 0) S hRf hRl hK hA hZ hP hD hS hl [0, 1, 2] [] [] (kR_kindOfWord l D uR uT cI cB cR cM cJ t σR σT r1 hr1) rfl rfl rfl gX4_readCoin_X4_kindOfWord rfl (by decide +kernel) rfl ⟨by decide, by decide⟩ rfl rfl rfl rfl (Nat.le_of_ble_eq_true rfl) dX4_readCoin_1 (fun H locs hP hD hS => ?_)
  replace hP : va_P D vwCl (xR uR uT cI cB cR cM cJ σR ++ xT uT cI cB cR cM cJ σT ++ xL uL cI cB cR cM cJ σL) H := hP
  replace hD : va_D A (xR uR uT cI cB cR cM cJ σR ++ xT uT cI cB cR cM cJ σT ++ xL uL cI cB cR cM cJ σL) := hD
  refine W.eq (g2 := F0 m 4 ls [.int r1]) rfl ?_
  refine lv_istore_n (lv' := [(2, .int r1), (0, .ref (uR 0)), (1, .ref (uL 0))]) hx hb dX4_readCoin_4 rfl hl (by decide) rfl (fun ls hl => ?_)
  refine lv_iload_n hx hb dX4_readCoin_5 rfl (lv_at hl 0 rfl) ?_
  refine lv_if_ne (tgt := 15) hx hb dX4_readCoin_6 (by decide) (fun c2 => ?_) (fun c2 => ?_)
  · have hf := (if_neg c2).symm.trans hf
    refine lv_aload_n hx hb dX4_readCoin_15 rfl (lv_at hl 1 rfl) ?_
    refine Rg_0 S hinX4 hK hP 0 rfl f10 dX4_readCoin_16 ?_
    obtain ⟨σ4, hr3, hf⟩ := bi_some hf
    refine kz_v (ci := 6) (q0 := 0) (n := 0) S hRf hRl hK hA hZ hP hD hS hl [1, 2] [] [] (kT_step l D uT cI cB cR cM cJ t σT σ4 hr3) rfl rfl rfl gX4_readCoin_X7_step rfl (by decide +kernel) rfl ⟨by decide, by decide⟩ rfl rfl rfl rfl (Nat.le_of_ble_eq_true rfl) dX4_readCoin_19 (fun H locs hP hD hS => ?_)
    replace hP : va_P D vwCl (xR uR uT cI cB cR cM cJ σR ++ xT uT cI cB cR cM cJ σ4 ++ xL uL cI cB cR cM cJ σL) H := hP
    replace hD : va_D A (xR uR uT cI cB cR cM cJ σR ++ xT uT cI cB cR cM cJ σ4 ++ xL uL cI cB cR cM cJ σL) := hD
    refine W.eq (g2 := F0 m 22 ls []) rfl ?_
    refine lv_aload_n hx hb dX4_readCoin_22 rfl (lv_at hl 1 rfl) ?_
    refine lv_iconst (v := 0) hx hb dX4_readCoin_23 (by decide) ?_
    refine lv_aload_n hx hb dX4_readCoin_24 rfl (lv_at hl 2 rfl) ?_
    refine Lg_6 S hinX5 hK hP 3 rfl f108 dX4_readCoin_25 ?_
    refine lv_iconst (v := 1) hx hb dX4_readCoin_28 (by decide) ?_
    refine lv_isub hx hb dX4_readCoin_29 ?_
    obtain ⟨r5, σ6, σ7, hr5, hf⟩ := bd3_some hf
    refine kz_v (ci := 3) (q0 := 0) (n := 2) S hRf hRl hK hA hZ hP hD hS hl [0, 1, 2] [.int 0, .int ((σL.1 6) - 1)] [] (kR_takeNumber l D uR uT cI cB cR cM cJ t σR σ4 0 ((σL.1 6) - 1) r5 σ6 σ7 hr5) rfl rfl rfl gX4_readCoin_X4_takeNumber rfl (by decide +kernel) rfl ⟨by decide, by decide⟩ rfl rfl rfl rfl (Nat.le_of_ble_eq_true rfl) dX4_readCoin_30 (fun H locs hP hD hS => ?_)
    replace hP : va_P D vwCl (xR uR uT cI cB cR cM cJ σ6 ++ xT uT cI cB cR cM cJ σ7 ++ xL uL cI cB cR cM cJ σL) H := hP
    replace hD : va_D A (xR uR uT cI cB cR cM cJ σ6 ++ xT uT cI cB cR cM cJ σ7 ++ xL uL cI cB cR cM cJ σL) := hD
    refine W.eq (g2 := F0 m 33 ls [.int r5]) rfl ?_
    refine lv_if_ne (tgt := 38) hx hb dX4_readCoin_33 (by decide) (fun c8 => ?_) (fun c8 => ?_)
    · have hf := (if_neg c8).symm.trans hf
      refine lv_aload_n hx hb dX4_readCoin_38 rfl (lv_at hl 1 rfl) ?_
      refine Rg_1 S hinX4 hK hP 0 rfl f16 dX4_readCoin_39 ?_
      refine lv_topi (fun x9 ex9 => ?_)
      have hf := nm_at ex9 hf
      refine lv_istore_n (lv' := [(3, .int x9), (2, .int r1), (0, .ref (uR 0)), (1, .ref (uL 0))]) hx hb dX4_readCoin_42 rfl hl (by decide) rfl (fun ls hl => ?_)
      refine lv_aload_n hx hb dX4_readCoin_43 rfl (lv_at hl 2 rfl) ?_
      refine lv_iconst (v := 0) hx hb dX4_readCoin_44 (by decide) ?_
      refine lv_sipush (v := 400) hx hb dX4_readCoin_45 (by decide) ?_
      obtain ⟨r10, σ11, σ12, hr10, hf⟩ := bd3_some hf
      refine kz_v (ci := 3) (q0 := 0) (n := 2) S hRf hRl hK hA hZ hP hD hS hl [0, 1, 2] [.int 0, .int 400] [] (kR_takeNumber l D uR uT cI cB cR cM cJ t σ6 σ7 0 400 r10 σ11 σ12 hr10) rfl rfl rfl gX4_readCoin_X4_takeNumber rfl (by decide +kernel) rfl ⟨by decide, by decide⟩ rfl rfl rfl rfl (Nat.le_of_ble_eq_true rfl) dX4_readCoin_48 (fun H locs hP hD hS => ?_)
      replace hP : va_P D vwCl (xR uR uT cI cB cR cM cJ σ11 ++ xT uT cI cB cR cM cJ σ12 ++ xL uL cI cB cR cM cJ σL) H := hP
      replace hD : va_D A (xR uR uT cI cB cR cM cJ σ11 ++ xT uT cI cB cR cM cJ σ12 ++ xL uL cI cB cR cM cJ σL) := hD
      refine W.eq (g2 := F0 m 51 ls [.int r10]) rfl ?_
      refine lv_if_ne (tgt := 56) hx hb dX4_readCoin_51 (by decide) (fun c13 => ?_) (fun c13 => ?_)
      · have hf := (if_neg c13).symm.trans hf
        refine lv_aload_n hx hb dX4_readCoin_56 rfl (lv_at hl 3 rfl) ?_
        refine lv_iload_n hx hb dX4_readCoin_57 rfl (lv_at hl 1 rfl) ?_
        refine lv_iload_n hx hb dX4_readCoin_58 rfl (lv_at hl 0 rfl) ?_
        refine lv_aload_n hx hb dX4_readCoin_59 rfl (lv_at hl 2 rfl) ?_
        refine Rg_1 S hinX4 hK hP 0 rfl f16 dX4_readCoin_60 ?_
        obtain ⟨σ15, hr14, hf⟩ := bi_some hf
        refine kz_v (ci := 4) (q0 := 0) (n := 3) S hRf hRl hK hA hZ hP hD hS hl [3, 4, 5, 6, 7] [.int r1, .int x9, .int (σ11.1 1)] [] (kL_addCoin l D uL cI cB cR cM cJ t σL r1 x9 (σ11.1 1) σ15 hr14) rfl rfl rfl gX4_readCoin_X5_addCoin rfl (by decide +kernel) rfl ⟨by decide, by decide⟩ rfl rfl rfl rfl (Nat.le_of_ble_eq_true rfl) dX4_readCoin_63 (fun H locs hP hD hS => ?_)
        replace hP : va_P D vwCl (xR uR uT cI cB cR cM cJ σ11 ++ xT uT cI cB cR cM cJ σ12 ++ xL uL cI cB cR cM cJ σ15) H := hP
        replace hD : va_D A (xR uR uT cI cB cR cM cJ σ11 ++ xT uT cI cB cR cM cJ σ12 ++ xL uL cI cB cR cM cJ σ15) := hD
        refine W.eq (g2 := F0 m 66 ls []) rfl ?_
        refine lv_aload_n hx hb dX4_readCoin_66 rfl (lv_at hl 2 rfl) ?_
        obtain ⟨r16, σ17, σ18, hr16, hf⟩ := bd3_some hf
        refine kz_v (ci := 3) (q0 := 0) (n := 0) S hRf hRl hK hA hZ hP hD hS hl [0, 1, 2] [] [] (kR_takeSign l D uR uT cI cB cR cM cJ t σ11 σ12 r16 σ17 σ18 hr16) rfl rfl rfl gX4_readCoin_X4_takeSign rfl (by decide +kernel) rfl ⟨by decide, by decide⟩ rfl rfl rfl rfl (Nat.le_of_ble_eq_true rfl) dX4_readCoin_67 (fun H locs hP hD hS => ?_)
        replace hP : va_P D vwCl (xR uR uT cI cB cR cM cJ σ17 ++ xT uT cI cB cR cM cJ σ18 ++ xL uL cI cB cR cM cJ σ15) H := hP
        replace hD : va_D A (xR uR uT cI cB cR cM cJ σ17 ++ xT uT cI cB cR cM cJ σ18 ++ xL uL cI cB cR cM cJ σ15) := hD
        refine W.eq (g2 := F0 m 70 ls [.int r16]) rfl ?_
        obtain ⟨g19, hf⟩ := gd_some hf
        exact hre _ _ _ _ _ _ _ _ hf hP hD hS dX4_readCoin_70 (by rcases g19 with g19 | g19 <;> (rw [g19]; rfl))
      · have hf := (if_pos c13).symm.trans hf
        refine lv_iconst (v := 0) hx hb dX4_readCoin_54 (by decide) ?_
        exact hre _ _ _ _ _ _ _ _ hf hP hD hS dX4_readCoin_55 rfl
    · have hf := (if_pos c8).symm.trans hf
      refine lv_iconst (v := 0) hx hb dX4_readCoin_36 (by decide) ?_
      exact hre _ _ _ _ _ _ _ _ hf hP hD hS dX4_readCoin_37 rfl
  · have hf := (if_pos c2).symm.trans hf
    refine lv_aload_n hx hb dX4_readCoin_9 rfl (lv_at hl 1 rfl) ?_
    refine lv_iconst (v := 1) hx hb dX4_readCoin_10 (by decide) ?_
    obtain ⟨r20, σ21, hr20, hf⟩ := bd2_some hf
    refine kz_v (ci := 3) (q0 := 0) (n := 1) S hRf hRl hK hA hZ hP hD hS hl [0, 1, 2] [.int 1] [] (kR_faulty l D uR uT cI cB cR cM cJ t σR σT 1 r20 σ21 hr20) rfl rfl rfl gX4_readCoin_X4_faulty rfl (by decide +kernel) rfl ⟨by decide, by decide⟩ rfl rfl rfl rfl (Nat.le_of_ble_eq_true rfl) dX4_readCoin_11 (fun H locs hP hD hS => ?_)
    replace hP : va_P D vwCl (xR uR uT cI cB cR cM cJ σ21 ++ xT uT cI cB cR cM cJ σT ++ xL uL cI cB cR cM cJ σL) H := hP
    replace hD : va_D A (xR uR uT cI cB cR cM cJ σ21 ++ xT uT cI cB cR cM cJ σT ++ xL uL cI cB cR cM cJ σL) := hD
    refine W.eq (g2 := F0 m 14 ls [.int r20]) rfl ?_
    obtain ⟨g22, hf⟩ := gd_some hf
    exact hre _ _ _ _ _ _ _ _ hf hP hD hS dX4_readCoin_14 (by rcases g22 with g22 | g22 <;> (rw [g22]; rfl))
def FR_readCoins_2 : Nat → MS → MS → MS → Int32 → Option (Int32 × MS × MS × MS)
  | 0, _, _, _, _ => none
  | n + 1, σR, σT, σL, l2 => if 12 < l2 then (some (1, σR, σT, σL)) else (Option.bind (FT_isWord σT 3) fun (r2 : Int32) => if r2 = 0 then (some (1, σR, σT, σL)) else (if l2 = 12 then (bd2 (FR_faulty σR σT 3) fun (r13 : Int32) (σ14 : MS) => gd (r13 = 0 ∨ r13 = 1) (some (r13, σ14, σT, σL))) else (Option.bind (FT_step σT) fun (σ6 : MS) => bd4 (FR_readCoin σR σ6 σL) fun (r7 : Int32) (σ8 : MS) (σ9 : MS) (σ10 : MS) => if r7 = 0 then (some (0, σ8, σ9, σ10)) else (nm (l2 + 1) fun (x12 : Int32) => (FR_readCoins_2 n) σ8 σ9 σ10 x12))))
def FR_readCoins (σR : MS) (σT : MS) (σL : MS) : Option (Int32 × MS × MS × MS) :=
  FR_readCoins_2 fuelN σR σT σL 0
set_option maxHeartbeats 4000000 in
set_option maxRecDepth 100000 in
theorem kR_readCoins (l : Launch) (D : va_G) (uR uT uL : Nat → Nat) (cI cB cR cM cJ : ClassId) (t : Nat → Nat) (σR : MS) (σT : MS) (σL : MS) (r : Int32) (σR' : MS) (σT' : MS) (σL' : MS) (hf : FR_readCoins σR σT σL = some (r, σR', σT', σL')) : KZ l D (ctys cI cB cR cM cJ) t yX4_readCoins wsX4_readCoins 7 150 [.ref (uR 0), .ref (uL 0)] (xR uR uT cI cB cR cM cJ σR ++ xT uT cI cB cR cM cJ σT ++ xL uL cI cB cR cM cJ σL) (some (.int r)) (xR uR uT cI cB cR cM cJ σR' ++ xT uT cI cB cR cM cJ σT' ++ xL uL cI cB cR cM cJ σL') := by
  refine KZ.ofZ (own := RX4) (cc := cX4_readCoins) (maxL := 3) (by decide) rfl rfl (Nat.le_of_ble_eq_true rfl) ?_
  intro p e s m args below meth c R Q A ls S hRf hRl hK hA hP hD hS hl hZ hret
  obtain ⟨hx, hb, hml, hown, hts⟩ := id S
  have f10 := hts (.fieldLink RX4 10 "PenniesAway$Reader" "text" "LPenniesAway$Tape;") (by decide +kernel)
  have hinX4 : ∀ w ∈ wsX40, w ∈ wsX4_readCoins := fun w hw => List.mem_cons_of_mem _ (List.mem_append_left _ (List.mem_append_left _ (List.mem_append_right _ hw)))
  have hl : lv_has ls 3 [(0, .ref (uR 0)), (1, .ref (uL 0))] := hl
  have hre : ∀ (x : Int32) (τR : MS) (τT : MS) (τL : MS) (pc : Nat) (ls : Array Slot) (H : Heap) (locs : List Loc), (some (x, τR, τT, τL) : Option (Int32 × MS × MS × MS)) = some (r, σR', σT', σL') → va_P D vwCl (xR uR uT cI cB cR cM cJ τR ++ xT uT cI cB cR cM cJ τT ++ xL uL cI cB cR cM cJ τL) H → va_D A (xR uR uT cI cB cR cM cJ τR ++ xT uT cI cB cR cM cJ τT ++ xL uL cI cB cR cM cJ τL) → va_S A s.heap H locs → decode cX4_readCoins pc = .ok (.ireturn, 1) → narrow .boolean (.int x) = .int x → W p l e R s m args below meth c H locs 0 0 Q (F0 m pc ls [.int x]) := by intro x τR τT τL pc ls H locs he; cases he; exact hret pc ls H locs
  have b2 : ∀ (n : Nat), ∀ (σR : MS) (σT : MS) (σL : MS) (l2 : Int32) (ls : Array Slot) (H : Heap) (locs : List Loc), FR_readCoins_2 n σR σT σL l2 = some (r, σR', σT', σL') → lv_has ls 3 [(0, .ref (uR 0)), (1, .ref (uL 0)), (2, .int l2)] → va_P D vwCl (xR uR uT cI cB cR cM cJ σR ++ xT uT cI cB cR cM cJ σT ++ xL uL cI cB cR cM cJ σL) H → va_D A (xR uR uT cI cB cR cM cJ σR ++ xT uT cI cB cR cM cJ σT ++ xL uL cI cB cR cM cJ σL) → va_S A s.heap H locs → W p l e R s m args below meth c H locs 0 0 Q (F0 m 2 ls []) := by
    intro n
    induction n with
    | zero => intro σR σT σL l2 ls H locs hf; exact absurd hf (by simp [FR_readCoins_2])
    | succ n ih =>
      intro σR σT σL l2 ls H locs hf hl hP hD hS
      rw [FR_readCoins_2] at hf
      refine lv_iload_n hx hb dX4_readCoins_2 rfl (lv_at hl 2 rfl) ?_
      refine lv_bipush (v := 12) hx hb dX4_readCoins_3 (by decide) ?_
      refine lv_icmp_gt (tgt := 55) hx hb dX4_readCoins_5 (by decide) (fun c1 => ?_) (fun c1 => ?_)
      · have hf := (if_pos c1).symm.trans hf
        refine lv_iconst (v := 1) hx hb dX4_readCoins_55 (by decide) ?_
        exact hre _ _ _ _ _ _ _ _ hf hP hD hS dX4_readCoins_56 rfl
      · have hf := (if_neg c1).symm.trans hf
        refine lv_aload_n hx hb dX4_readCoins_8 rfl (lv_at hl 0 rfl) ?_
        refine Rg_0 S hinX4 hK hP 0 rfl f10 dX4_readCoins_9 ?_
        refine va_ldcS hx hb hown hZ.2.2.2.2.2.2.1 dX4_readCoins_12 ?_
        obtain ⟨r2, hr2, hf⟩ := bi_some hf
        refine kz_v (ci := 6) (q0 := 0) (n := 1) S hRf hRl hK hA hZ hP hD hS hl [1, 2] [.ref (t 13)] [] (kT_isWord l D uT cI cB cR cM cJ t σT 3 r2 hr2) rfl rfl rfl gX4_readCoins_X7_isWord rfl (by decide +kernel) rfl ⟨by decide, by decide⟩ rfl rfl rfl rfl (Nat.le_of_ble_eq_true rfl) dX4_readCoins_14 (fun H locs hP hD hS => ?_)
        replace hP : va_P D vwCl (xR uR uT cI cB cR cM cJ σR ++ xT uT cI cB cR cM cJ σT ++ xL uL cI cB cR cM cJ σL) H := hP
        replace hD : va_D A (xR uR uT cI cB cR cM cJ σR ++ xT uT cI cB cR cM cJ σT ++ xL uL cI cB cR cM cJ σL) := hD
        refine W.eq (g2 := F0 m 17 ls [.int r2]) rfl ?_
        refine lv_if_eq (tgt := 55) hx hb dX4_readCoins_17 (by decide) (fun c3 => ?_) (fun c3 => ?_)
        · have hf := (if_pos c3).symm.trans hf
          refine lv_iconst (v := 1) hx hb dX4_readCoins_55 (by decide) ?_
          exact hre _ _ _ _ _ _ _ _ hf hP hD hS dX4_readCoins_56 rfl
        · have hf := (if_neg c3).symm.trans hf
          refine lv_iload_n hx hb dX4_readCoins_20 rfl (lv_at hl 2 rfl) ?_
          refine lv_bipush (v := 12) hx hb dX4_readCoins_21 (by decide) ?_
          refine lv_icmp_ne (tgt := 32) hx hb dX4_readCoins_23 (by decide) (fun c4 => ?_) (fun c4 => ?_)
          · have hf := (if_neg c4).symm.trans hf
            refine lv_aload_n hx hb dX4_readCoins_32 rfl (lv_at hl 0 rfl) ?_
            refine Rg_0 S hinX4 hK hP 0 rfl f10 dX4_readCoins_33 ?_
            obtain ⟨σ6, hr5, hf⟩ := bi_some hf
            refine kz_v (ci := 6) (q0 := 0) (n := 0) S hRf hRl hK hA hZ hP hD hS hl [1, 2] [] [] (kT_step l D uT cI cB cR cM cJ t σT σ6 hr5) rfl rfl rfl gX4_readCoins_X7_step rfl (by decide +kernel) rfl ⟨by decide, by decide⟩ rfl rfl rfl rfl (Nat.le_of_ble_eq_true rfl) dX4_readCoins_36 (fun H locs hP hD hS => ?_)
            replace hP : va_P D vwCl (xR uR uT cI cB cR cM cJ σR ++ xT uT cI cB cR cM cJ σ6 ++ xL uL cI cB cR cM cJ σL) H := hP
            replace hD : va_D A (xR uR uT cI cB cR cM cJ σR ++ xT uT cI cB cR cM cJ σ6 ++ xL uL cI cB cR cM cJ σL) := hD
            refine W.eq (g2 := F0 m 39 ls []) rfl ?_
            refine lv_aload_n hx hb dX4_readCoins_39 rfl (lv_at hl 0 rfl) ?_
            refine lv_aload_n hx hb dX4_readCoins_40 rfl (lv_at hl 1 rfl) ?_
            obtain ⟨r7, σ8, σ9, σ10, hr7, hf⟩ := bd4_some hf
            refine kz_v (ci := 3) (q0 := 0) (n := 1) S hRf hRl hK hA hZ hP hD hS hl [0, 1, 2, 3, 4, 5, 6, 7] [.ref (uL 0)] [] (kR_readCoin l D uR uT uL cI cB cR cM cJ t σR σ6 σL r7 σ8 σ9 σ10 hr7) rfl rfl rfl gX4_readCoins_X4_readCoin rfl (by decide +kernel) rfl ⟨by decide, by decide⟩ rfl rfl rfl rfl (Nat.le_of_ble_eq_true rfl) dX4_readCoins_41 (fun H locs hP hD hS => ?_)
            replace hP : va_P D vwCl (xR uR uT cI cB cR cM cJ σ8 ++ xT uT cI cB cR cM cJ σ9 ++ xL uL cI cB cR cM cJ σ10) H := hP
            replace hD : va_D A (xR uR uT cI cB cR cM cJ σ8 ++ xT uT cI cB cR cM cJ σ9 ++ xL uL cI cB cR cM cJ σ10) := hD
            refine W.eq (g2 := F0 m 44 ls [.int r7]) rfl ?_
            refine lv_if_ne (tgt := 49) hx hb dX4_readCoins_44 (by decide) (fun c11 => ?_) (fun c11 => ?_)
            · have hf := (if_neg c11).symm.trans hf
              obtain ⟨x12, ex12, hf⟩ := nm_some hf
              refine lv_iinc (v := x12) (lv' := [(2, .int x12), (0, .ref (uR 0)), (1, .ref (uL 0))]) hx hb dX4_readCoins_49 hl (k := 2) rfl (by rw [ex12]; rfl) (by decide) rfl (fun ls hl => ?_)
              refine lv_goto (tgt := 2) hx hb dX4_readCoins_52 (by decide) ?_
              exact ih _ _ _ _ _ _ _ hf (lv_sub hl [1, 2, 0] rfl) hP hD hS
            · have hf := (if_pos c11).symm.trans hf
              refine lv_iconst (v := 0) hx hb dX4_readCoins_47 (by decide) ?_
              exact hre _ _ _ _ _ _ _ _ hf hP hD hS dX4_readCoins_48 rfl
          · have hf := (if_pos c4).symm.trans hf
            refine lv_aload_n hx hb dX4_readCoins_26 rfl (lv_at hl 0 rfl) ?_
            refine lv_iconst (v := 3) hx hb dX4_readCoins_27 (by decide) ?_
            obtain ⟨r13, σ14, hr13, hf⟩ := bd2_some hf
            refine kz_v (ci := 3) (q0 := 0) (n := 1) S hRf hRl hK hA hZ hP hD hS hl [0, 1, 2] [.int 3] [] (kR_faulty l D uR uT cI cB cR cM cJ t σR σT 3 r13 σ14 hr13) rfl rfl rfl gX4_readCoins_X4_faulty rfl (by decide +kernel) rfl ⟨by decide, by decide⟩ rfl rfl rfl rfl (Nat.le_of_ble_eq_true rfl) dX4_readCoins_28 (fun H locs hP hD hS => ?_)
            replace hP : va_P D vwCl (xR uR uT cI cB cR cM cJ σ14 ++ xT uT cI cB cR cM cJ σT ++ xL uL cI cB cR cM cJ σL) H := hP
            replace hD : va_D A (xR uR uT cI cB cR cM cJ σ14 ++ xT uT cI cB cR cM cJ σT ++ xL uL cI cB cR cM cJ σL) := hD
            refine W.eq (g2 := F0 m 31 ls [.int r13]) rfl ?_
            obtain ⟨g15, hf⟩ := gd_some hf
            exact hre _ _ _ _ _ _ _ _ hf hP hD hS dX4_readCoins_31 (by rcases g15 with g15 | g15 <;> (rw [g15]; rfl))
  unfold FR_readCoins at hf
  refine lv_iconst (v := 0) hx hb dX4_readCoins_0 (by decide) ?_
  refine lv_istore_n (lv' := [(2, .int 0), (0, .ref (uR 0)), (1, .ref (uL 0))]) hx hb dX4_readCoins_1 rfl hl (by decide) rfl (fun ls hl => ?_)
  exact b2 fuelN _ _ _ _ _ _ _ hf (lv_sub hl [1, 2, 0] rfl) hP hD hS
def FR_read (σR : MS) (σT : MS) (σL : MS) : Option (Int32 × MS × MS × MS) :=
  Option.bind (FL_clear σL) fun (σ2 : MS) => Option.bind (FT_rewind σT) fun (σ4 : MS) => bd4 (FR_readLaw σR σ4 σ2) fun (r5 : Int32) (σ6 : MS) (σ7 : MS) (σ8 : MS) => if r5 = 0 then (some (0, σ6, σ7, σ8)) else (bd4 (FR_readRoads σ6 σ7 σ8) fun (r10 : Int32) (σ11 : MS) (σ12 : MS) (σ13 : MS) => if r10 = 0 then (some (0, σ11, σ12, σ13)) else (bd4 (FR_readHolders σ11 σ12 σ13) fun (r15 : Int32) (σ16 : MS) (σ17 : MS) (σ18 : MS) => if r15 = 0 then (some (0, σ16, σ17, σ18)) else (bd4 (FR_readCoins σ16 σ17 σ18) fun (r20 : Int32) (σ21 : MS) (σ22 : MS) (σ23 : MS) => if r20 = 0 then (some (0, σ21, σ22, σ23)) else (if (σ22.1 2) = 0 then (Option.bind (FL_shortenWays σ23) fun (σ27 : MS) => nm (setF σ27 4 1) fun (σ28 : MS) => some (1, σ21, σ22, σ28)) else (bd2 (FR_faulty σ21 σ22 1) fun (r29 : Int32) (σ30 : MS) => gd (r29 = 0 ∨ r29 = 1) (some (r29, σ30, σ22, σ23)))))))
set_option maxHeartbeats 4000000 in
set_option maxRecDepth 100000 in
theorem kR_read (l : Launch) (D : va_G) (uR uT uL : Nat → Nat) (cI cB cR cM cJ : ClassId) (t : Nat → Nat) (σR : MS) (σT : MS) (σL : MS) (r : Int32) (σR' : MS) (σT' : MS) (σL' : MS) (hf : FR_read σR σT σL = some (r, σR', σT', σL')) : KZ l D (ctys cI cB cR cM cJ) t yX4_read wsX4_read 8 172 [.ref (uR 0), .ref (uL 0)] (xR uR uT cI cB cR cM cJ σR ++ xT uT cI cB cR cM cJ σT ++ xL uL cI cB cR cM cJ σL) (some (.int r)) (xR uR uT cI cB cR cM cJ σR' ++ xT uT cI cB cR cM cJ σT' ++ xL uL cI cB cR cM cJ σL') := by
  refine KZ.ofZ (own := RX4) (cc := cX4_read) (maxL := 2) (by decide) rfl rfl (Nat.le_of_ble_eq_true rfl) ?_
  intro p e s m args below meth c R Q A ls S hRf hRl hK hA hP hD hS hl hZ hret
  obtain ⟨hx, hb, hml, hown, hts⟩ := id S
  have f10 := hts (.fieldLink RX4 10 "PenniesAway$Reader" "text" "LPenniesAway$Tape;") (by decide +kernel)
  have hinX4 : ∀ w ∈ wsX40, w ∈ wsX4_read := fun w hw => List.mem_cons_of_mem _ (List.mem_append_left _ (List.mem_append_left _ (List.mem_append_right _ hw)))
  have f47 := hts (.fieldLink RX4 47 "PenniesAway$Tape" "sort" "I") (by decide +kernel)
  have hinX7 : ∀ w ∈ wsX70, w ∈ wsX4_read := fun w hw => List.mem_cons_of_mem _ (List.mem_append_left _ (List.mem_append_right _ hw))
  have f57 := hts (.fieldLink RX4 57 "PenniesAway$Realm" "told" "Z") (by decide +kernel)
  have hinX5 : ∀ w ∈ wsX50, w ∈ wsX4_read := fun w hw => List.mem_cons_of_mem _ (List.mem_append_right _ hw)
  have hl : lv_has ls 2 [(0, .ref (uR 0)), (1, .ref (uL 0))] := hl
  have hre : ∀ (x : Int32) (τR : MS) (τT : MS) (τL : MS) (pc : Nat) (ls : Array Slot) (H : Heap) (locs : List Loc), (some (x, τR, τT, τL) : Option (Int32 × MS × MS × MS)) = some (r, σR', σT', σL') → va_P D vwCl (xR uR uT cI cB cR cM cJ τR ++ xT uT cI cB cR cM cJ τT ++ xL uL cI cB cR cM cJ τL) H → va_D A (xR uR uT cI cB cR cM cJ τR ++ xT uT cI cB cR cM cJ τT ++ xL uL cI cB cR cM cJ τL) → va_S A s.heap H locs → decode cX4_read pc = .ok (.ireturn, 1) → narrow .boolean (.int x) = .int x → W p l e R s m args below meth c H locs 0 0 Q (F0 m pc ls [.int x]) := by intro x τR τT τL pc ls H locs he; cases he; exact hret pc ls H locs
  unfold FR_read at hf
  refine lv_aload_n hx hb dX4_read_0 rfl (lv_at hl 1 rfl) ?_
  obtain ⟨σ2, hr1, hf⟩ := bi_some hf
  refine kz_v (ci := 4) (q0 := 0) (n := 0) S hRf hRl hK hA hZ hP hD hS hl [3, 4, 5, 6, 7] [] [] (kL_clear l D uL cI cB cR cM cJ t σL σ2 hr1) rfl rfl rfl gX4_read_X5_clear rfl (by decide +kernel) rfl ⟨by decide, by decide⟩ rfl rfl rfl rfl (Nat.le_of_ble_eq_true rfl) dX4_read_1 (fun H locs hP hD hS => ?_)
  replace hP : va_P D vwCl (xR uR uT cI cB cR cM cJ σR ++ xT uT cI cB cR cM cJ σT ++ xL uL cI cB cR cM cJ σ2) H := hP
  replace hD : va_D A (xR uR uT cI cB cR cM cJ σR ++ xT uT cI cB cR cM cJ σT ++ xL uL cI cB cR cM cJ σ2) := hD
  refine W.eq (g2 := F0 m 4 ls []) rfl ?_
  refine lv_aload_n hx hb dX4_read_4 rfl (lv_at hl 0 rfl) ?_
  refine Rg_0 S hinX4 hK hP 0 rfl f10 dX4_read_5 ?_
  obtain ⟨σ4, hr3, hf⟩ := bi_some hf
  refine kz_v (ci := 6) (q0 := 0) (n := 0) S hRf hRl hK hA hZ hP hD hS hl [1, 2] [] [] (kT_rewind l D uT cI cB cR cM cJ t σT σ4 hr3) rfl rfl rfl gX4_read_X7_rewind rfl (by decide +kernel) rfl ⟨by decide, by decide⟩ rfl rfl rfl rfl (Nat.le_of_ble_eq_true rfl) dX4_read_8 (fun H locs hP hD hS => ?_)
  replace hP : va_P D vwCl (xR uR uT cI cB cR cM cJ σR ++ xT uT cI cB cR cM cJ σ4 ++ xL uL cI cB cR cM cJ σ2) H := hP
  replace hD : va_D A (xR uR uT cI cB cR cM cJ σR ++ xT uT cI cB cR cM cJ σ4 ++ xL uL cI cB cR cM cJ σ2) := hD
  refine W.eq (g2 := F0 m 11 ls []) rfl ?_
  refine lv_aload_n hx hb dX4_read_11 rfl (lv_at hl 0 rfl) ?_
  refine lv_aload_n hx hb dX4_read_12 rfl (lv_at hl 1 rfl) ?_
  obtain ⟨r5, σ6, σ7, σ8, hr5, hf⟩ := bd4_some hf
  refine kz_v (ci := 3) (q0 := 0) (n := 1) S hRf hRl hK hA hZ hP hD hS hl [0, 1, 2, 3, 4, 5, 6, 7] [.ref (uL 0)] [] (kR_readLaw l D uR uT uL cI cB cR cM cJ t σR σ4 σ2 r5 σ6 σ7 σ8 hr5) rfl rfl rfl gX4_read_X4_readLaw rfl (by decide +kernel) rfl ⟨by decide, by decide⟩ rfl rfl rfl rfl (Nat.le_of_ble_eq_true rfl) dX4_read_13 (fun H locs hP hD hS => ?_)
  replace hP : va_P D vwCl (xR uR uT cI cB cR cM cJ σ6 ++ xT uT cI cB cR cM cJ σ7 ++ xL uL cI cB cR cM cJ σ8) H := hP
  replace hD : va_D A (xR uR uT cI cB cR cM cJ σ6 ++ xT uT cI cB cR cM cJ σ7 ++ xL uL cI cB cR cM cJ σ8) := hD
  refine W.eq (g2 := F0 m 16 ls [.int r5]) rfl ?_
  refine lv_if_eq (tgt := 43) hx hb dX4_read_16 (by decide) (fun c9 => ?_) (fun c9 => ?_)
  · have hf := (if_pos c9).symm.trans hf
    refine lv_iconst (v := 0) hx hb dX4_read_43 (by decide) ?_
    exact hre _ _ _ _ _ _ _ _ hf hP hD hS dX4_read_44 rfl
  · have hf := (if_neg c9).symm.trans hf
    refine lv_aload_n hx hb dX4_read_19 rfl (lv_at hl 0 rfl) ?_
    refine lv_aload_n hx hb dX4_read_20 rfl (lv_at hl 1 rfl) ?_
    obtain ⟨r10, σ11, σ12, σ13, hr10, hf⟩ := bd4_some hf
    refine kz_v (ci := 3) (q0 := 0) (n := 1) S hRf hRl hK hA hZ hP hD hS hl [0, 1, 2, 3, 4, 5, 6, 7] [.ref (uL 0)] [] (kR_readRoads l D uR uT uL cI cB cR cM cJ t σ6 σ7 σ8 r10 σ11 σ12 σ13 hr10) rfl rfl rfl gX4_read_X4_readRoads rfl (by decide +kernel) rfl ⟨by decide, by decide⟩ rfl rfl rfl rfl (Nat.le_of_ble_eq_true rfl) dX4_read_21 (fun H locs hP hD hS => ?_)
    replace hP : va_P D vwCl (xR uR uT cI cB cR cM cJ σ11 ++ xT uT cI cB cR cM cJ σ12 ++ xL uL cI cB cR cM cJ σ13) H := hP
    replace hD : va_D A (xR uR uT cI cB cR cM cJ σ11 ++ xT uT cI cB cR cM cJ σ12 ++ xL uL cI cB cR cM cJ σ13) := hD
    refine W.eq (g2 := F0 m 24 ls [.int r10]) rfl ?_
    refine lv_if_eq (tgt := 43) hx hb dX4_read_24 (by decide) (fun c14 => ?_) (fun c14 => ?_)
    · have hf := (if_pos c14).symm.trans hf
      refine lv_iconst (v := 0) hx hb dX4_read_43 (by decide) ?_
      exact hre _ _ _ _ _ _ _ _ hf hP hD hS dX4_read_44 rfl
    · have hf := (if_neg c14).symm.trans hf
      refine lv_aload_n hx hb dX4_read_27 rfl (lv_at hl 0 rfl) ?_
      refine lv_aload_n hx hb dX4_read_28 rfl (lv_at hl 1 rfl) ?_
      obtain ⟨r15, σ16, σ17, σ18, hr15, hf⟩ := bd4_some hf
      refine kz_v (ci := 3) (q0 := 0) (n := 1) S hRf hRl hK hA hZ hP hD hS hl [0, 1, 2, 3, 4, 5, 6, 7] [.ref (uL 0)] [] (kR_readHolders l D uR uT uL cI cB cR cM cJ t σ11 σ12 σ13 r15 σ16 σ17 σ18 hr15) rfl rfl rfl gX4_read_X4_readHolders rfl (by decide +kernel) rfl ⟨by decide, by decide⟩ rfl rfl rfl rfl (Nat.le_of_ble_eq_true rfl) dX4_read_29 (fun H locs hP hD hS => ?_)
      replace hP : va_P D vwCl (xR uR uT cI cB cR cM cJ σ16 ++ xT uT cI cB cR cM cJ σ17 ++ xL uL cI cB cR cM cJ σ18) H := hP
      replace hD : va_D A (xR uR uT cI cB cR cM cJ σ16 ++ xT uT cI cB cR cM cJ σ17 ++ xL uL cI cB cR cM cJ σ18) := hD
      refine W.eq (g2 := F0 m 32 ls [.int r15]) rfl ?_
      refine lv_if_eq (tgt := 43) hx hb dX4_read_32 (by decide) (fun c19 => ?_) (fun c19 => ?_)
      · have hf := (if_pos c19).symm.trans hf
        refine lv_iconst (v := 0) hx hb dX4_read_43 (by decide) ?_
        exact hre _ _ _ _ _ _ _ _ hf hP hD hS dX4_read_44 rfl
      · have hf := (if_neg c19).symm.trans hf
        refine lv_aload_n hx hb dX4_read_35 rfl (lv_at hl 0 rfl) ?_
        refine lv_aload_n hx hb dX4_read_36 rfl (lv_at hl 1 rfl) ?_
        obtain ⟨r20, σ21, σ22, σ23, hr20, hf⟩ := bd4_some hf
        refine kz_v (ci := 3) (q0 := 0) (n := 1) S hRf hRl hK hA hZ hP hD hS hl [0, 1, 2, 3, 4, 5, 6, 7] [.ref (uL 0)] [] (kR_readCoins l D uR uT uL cI cB cR cM cJ t σ16 σ17 σ18 r20 σ21 σ22 σ23 hr20) rfl rfl rfl gX4_read_X4_readCoins rfl (by decide +kernel) rfl ⟨by decide, by decide⟩ rfl rfl rfl rfl (Nat.le_of_ble_eq_true rfl) dX4_read_37 (fun H locs hP hD hS => ?_)
        replace hP : va_P D vwCl (xR uR uT cI cB cR cM cJ σ21 ++ xT uT cI cB cR cM cJ σ22 ++ xL uL cI cB cR cM cJ σ23) H := hP
        replace hD : va_D A (xR uR uT cI cB cR cM cJ σ21 ++ xT uT cI cB cR cM cJ σ22 ++ xL uL cI cB cR cM cJ σ23) := hD
        refine W.eq (g2 := F0 m 40 ls [.int r20]) rfl ?_
        refine lv_if_ne (tgt := 45) hx hb dX4_read_40 (by decide) (fun c24 => ?_) (fun c24 => ?_)
        · have hf := (if_neg c24).symm.trans hf
          refine lv_aload_n hx hb dX4_read_45 rfl (lv_at hl 0 rfl) ?_
          refine Rg_0 S hinX4 hK hP 0 rfl f10 dX4_read_46 ?_
          refine Tg_2 S hinX7 hK hP 1 rfl f47 dX4_read_49 ?_
          refine lv_if_eq (tgt := 61) hx hb dX4_read_52 (by decide) (fun c25 => ?_) (fun c25 => ?_)
          · have hf := (if_pos c25).symm.trans hf
            refine lv_aload_n hx hb dX4_read_61 rfl (lv_at hl 1 rfl) ?_
            obtain ⟨σ27, hr26, hf⟩ := bi_some hf
            refine kz_v (ci := 4) (q0 := 0) (n := 0) S hRf hRl hK hA hZ hP hD hS hl [3, 4, 5, 6, 7] [] [] (kL_shortenWays l D uL cI cB cR cM cJ t σ23 σ27 hr26) rfl rfl rfl gX4_read_X5_shortenWays rfl (by decide +kernel) rfl ⟨by decide, by decide⟩ rfl rfl rfl rfl (Nat.le_of_ble_eq_true rfl) dX4_read_62 (fun H locs hP hD hS => ?_)
            replace hP : va_P D vwCl (xR uR uT cI cB cR cM cJ σ21 ++ xT uT cI cB cR cM cJ σ22 ++ xL uL cI cB cR cM cJ σ27) H := hP
            replace hD : va_D A (xR uR uT cI cB cR cM cJ σ21 ++ xT uT cI cB cR cM cJ σ22 ++ xL uL cI cB cR cM cJ σ27) := hD
            refine W.eq (g2 := F0 m 65 ls []) rfl ?_
            refine lv_aload_n hx hb dX4_read_65 rfl (lv_at hl 1 rfl) ?_
            refine lv_iconst (v := 1) hx hb dX4_read_66 (by decide) ?_
            refine Lp_4 S hinX5 hK hP hD hS 3 rfl f57 rfl rfl dX4_read_67 (fun H locs hP hD hS => ?_)
            obtain ⟨σ28, eσ28, hf⟩ := nm_some hf
            replace hP : va_P D vwCl (xR uR uT cI cB cR cM cJ σ21 ++ xT uT cI cB cR cM cJ σ22 ++ xL uL cI cB cR cM cJ σ28) H := by rw [eσ28]; exact hP
            replace hD : va_D A (xR uR uT cI cB cR cM cJ σ21 ++ xT uT cI cB cR cM cJ σ22 ++ xL uL cI cB cR cM cJ σ28) := by rw [eσ28]; exact hD
            refine lv_iconst (v := 1) hx hb dX4_read_70 (by decide) ?_
            exact hre _ _ _ _ _ _ _ _ hf hP hD hS dX4_read_71 rfl
          · have hf := (if_neg c25).symm.trans hf
            refine lv_aload_n hx hb dX4_read_55 rfl (lv_at hl 0 rfl) ?_
            refine lv_iconst (v := 1) hx hb dX4_read_56 (by decide) ?_
            obtain ⟨r29, σ30, hr29, hf⟩ := bd2_some hf
            refine kz_v (ci := 3) (q0 := 0) (n := 1) S hRf hRl hK hA hZ hP hD hS hl [0, 1, 2] [.int 1] [] (kR_faulty l D uR uT cI cB cR cM cJ t σ21 σ22 1 r29 σ30 hr29) rfl rfl rfl gX4_read_X4_faulty rfl (by decide +kernel) rfl ⟨by decide, by decide⟩ rfl rfl rfl rfl (Nat.le_of_ble_eq_true rfl) dX4_read_57 (fun H locs hP hD hS => ?_)
            replace hP : va_P D vwCl (xR uR uT cI cB cR cM cJ σ30 ++ xT uT cI cB cR cM cJ σ22 ++ xL uL cI cB cR cM cJ σ23) H := hP
            replace hD : va_D A (xR uR uT cI cB cR cM cJ σ30 ++ xT uT cI cB cR cM cJ σ22 ++ xL uL cI cB cR cM cJ σ23) := hD
            refine W.eq (g2 := F0 m 60 ls [.int r29]) rfl ?_
            obtain ⟨g31, hf⟩ := gd_some hf
            exact hre _ _ _ _ _ _ _ _ hf hP hD hS dX4_read_60 (by rcases g31 with g31 | g31 <;> (rw [g31]; rfl))
        · have hf := (if_pos c24).symm.trans hf
          refine lv_iconst (v := 0) hx hb dX4_read_43 (by decide) ?_
          exact hre _ _ _ _ _ _ _ _ hf hP hD hS dX4_read_44 rfl
