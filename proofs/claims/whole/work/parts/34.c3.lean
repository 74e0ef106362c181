def FL_slackWithMint_90 (σL : MS) (l1 : Int32) (l3 : Int32) : Option Int32 :=
  if l3 < 1000000 then (Option.bind (FL_spanOf σL l1) fun (r18 : Int32) => Option.bind (FL_about σL l1 1) fun (r19 : Int32) => some (((r18 - r19) - l3))) else (some ((-1000000)))
def FL_slackWithMint (σL : MS) (a1 : Int32) (a2 : Int32) : Option Int32 :=
  Option.bind (FL_dumb σL a1) fun (r1 : Int32) => if r1 = 0 then (Option.bind (FL_forged σL a1) fun (r3 : Int32) => if r3 = 0 then (Option.bind (FL_about σL a1 3) fun (r5 : Int32) => Option.bind (FL_townOf σL a1) fun (r6 : Int32) => gd (¬ ((((r6 * 8) + 0) : Int32) < 0 ∨ 64 ≤ Int32.toNatClampNeg ((r6 * 8) + 0))) (nm (σL.2 0 (Int32.toNatClampNeg ((r6 * 8) + 0))) fun (x8 : Int32) => Option.bind (FL_withHolder σL a1) fun (r9 : Int32) => if r9 = 0 then (Option.bind (FL_about σL a1 2) fun (r11 : Int32) => if r11 = 2 then (nm (r5 + x8) fun (x13 : Int32) => FL_slackWithMint_90 σL a1 x13) else (FL_slackWithMint_90 σL a1 r5)) else (Option.bind (FL_townOf σL a1) fun (r14 : Int32) => gd (¬ ((((r14 * 8) + a2) : Int32) < 0 ∨ 64 ≤ Int32.toNatClampNeg ((r14 * 8) + a2))) (nm (if (σL.2 0 (Int32.toNatClampNeg ((r14 * 8) + a2))) < x8 then (σL.2 0 (Int32.toNatClampNeg ((r14 * 8) + a2))) else x8) fun (x16 : Int32) => FL_slackWithMint_90 σL a1 x16)))) else (some ((-1000000)))) else (some ((-1000000)))
set_option maxHeartbeats 4000000 in
set_option maxRecDepth 100000 in
theorem kL_slackWithMint (l : Launch) (D : va_G) (uL : Nat → Nat) (cI cB cR cM cJ : ClassId) (t : Nat → Nat) (σL : MS) (a1 : Int32) (a2 : Int32) (r : Int32) (hf : FL_slackWithMint σL a1 a2 = some (r)) : KZ l D (ctys cI cB cR cM cJ) t yX5_slackWithMint wsX5_slackWithMint 2 43 [.ref (uL 0), .int a1, .int a2] (xL uL cI cB cR cM cJ σL) (some (.int r)) (xL uL cI cB cR cM cJ σL) := by
  refine KZ.ofI (own := RX5) (cc := cX5_slackWithMint) (maxL := 5) (by decide) rfl rfl (Nat.le_of_ble_eq_true rfl) ?_
  intro p e s m args below meth c R Q A ls S hRf hRl hK hA hP hD hS hl hZ hret
  obtain ⟨hx, hb, hml, hown, hts⟩ := id S
  have c61 := hts (.constant RX5 61 (-1000000)) (by decide +kernel)
  have f11 := hts (.fieldLink RX5 11 "PenniesAway$Realm" "ways" "[I") (by decide +kernel)
  have hinX5 : ∀ w ∈ wsX50, w ∈ wsX5_slackWithMint := fun w hw => List.mem_cons_of_mem _ (List.mem_append_right _ hw)
  have ml51 := hts (.methodLink RX5 51 Lib.Math.min.name) (by decide +kernel)
  have msmin := hts (.static Lib.Math.min.name) (by decide +kernel)
  have mini := hts (.initialized "java/lang/Math") (by decide +kernel)
  have mcmin := hts (.code Lib.Math.min.name Lib.Math.min.code 2 (some .int)) (by decide +kernel)
  have c38 := hts (.constant RX5 38 (1000000)) (by decide +kernel)
  have hl : lv_has ls 5 [(0, .ref (uL 0)), (1, .int a1), (2, .int a2)] := hl
  have hre : ∀ (x : Int32) (pc : Nat) (ls : Array Slot) (H : Heap) (locs : List Loc), (some (x) : Option Int32) = some (r) → va_P D vwCl (xL uL cI cB cR cM cJ σL) H → va_D A (xL uL cI cB cR cM cJ σL) → va_S A s.heap H locs → decode cX5_slackWithMint pc = .ok (.ireturn, 1) → W p l e R s m args below meth c H locs 0 0 Q (F0 m pc ls [.int x]) := by intro x pc ls H locs he; cases he; exact hret pc ls H locs
  have b90 : ∀ (l1 : Int32) (l3 : Int32) (ls : Array Slot) (H : Heap) (locs : List Loc), FL_slackWithMint_90 σL l1 l3 = some (r) → lv_has ls 5 [(0, .ref (uL 0)), (1, .int l1), (3, .int l3)] → va_P D vwCl (xL uL cI cB cR cM cJ σL) H → va_D A (xL uL cI cB cR cM cJ σL) → va_S A s.heap H locs → W p l e R s m args below meth c H locs 0 0 Q (F0 m 90 ls []) := by
    intro l1 l3 ls H locs hf hl hP hD hS
    unfold FL_slackWithMint_90 at hf
    refine lv_iload_n hx hb dX5_slackWithMint_90 rfl (lv_at hl 2 rfl) ?_
    refine lv_ldc (v := 1000000) hx hb hown c38 dX5_slackWithMint_91 ?_
    refine lv_icmp_lt (tgt := 101) hx hb dX5_slackWithMint_93 (by decide) (fun c17 => ?_) (fun c17 => ?_)
    · have hf := (if_pos c17).symm.trans hf
      refine lv_aload_n hx hb dX5_slackWithMint_101 rfl (lv_at hl 0 rfl) ?_
      refine lv_iload_n hx hb dX5_slackWithMint_102 rfl (lv_at hl 1 rfl) ?_
      obtain ⟨r18, hr18, hf⟩ := bi_some hf
      refine kz_v (ci := 4) (q0 := 0) (n := 1) S hRf hRl hK hA hZ hP hD hS hl [0, 1, 2, 3, 4] [.int l1] [] (kL_spanOf l D uL cI cB cR cM cJ t σL l1 r18 hr18) rfl rfl rfl gX5_slackWithMint_X5_spanOf rfl (by decide +kernel) rfl ⟨by decide, by decide⟩ rfl rfl rfl rfl (Nat.le_of_ble_eq_true rfl) dX5_slackWithMint_103 (fun H locs hP hD hS => ?_)
      replace hP : va_P D vwCl (xL uL cI cB cR cM cJ σL) H := hP
      replace hD : va_D A (xL uL cI cB cR cM cJ σL) := hD
      refine W.eq (g2 := F0 m 106 ls [.int r18]) rfl ?_
      refine lv_aload_n hx hb dX5_slackWithMint_106 rfl (lv_at hl 0 rfl) ?_
      refine lv_iload_n hx hb dX5_slackWithMint_107 rfl (lv_at hl 1 rfl) ?_
      refine lv_iconst (v := 1) hx hb dX5_slackWithMint_108 (by decide) ?_
      obtain ⟨r19, hr19, hf⟩ := bi_some hf
      refine kz_v (ci := 4) (q0 := 0) (n := 2) S hRf hRl hK hA hZ hP hD hS hl [0, 1, 2, 3, 4] [.int l1, .int 1] [.int r18] (kL_about l D uL cI cB cR cM cJ t σL l1 1 r19 hr19) rfl rfl rfl gX5_slackWithMint_X5_about rfl (by decide +kernel) rfl ⟨by decide, by decide⟩ rfl rfl rfl rfl (Nat.le_of_ble_eq_true rfl) dX5_slackWithMint_109 (fun H locs hP hD hS => ?_)
      replace hP : va_P D vwCl (xL uL cI cB cR cM cJ σL) H := hP
      replace hD : va_D A (xL uL cI cB cR cM cJ σL) := hD
      refine W.eq (g2 := F0 m 112 ls [.int r19, .int r18]) rfl ?_
      refine lv_isub hx hb dX5_slackWithMint_112 ?_
      refine lv_iload_n hx hb dX5_slackWithMint_113 rfl (lv_at hl 2 rfl) ?_
      refine lv_isub hx hb dX5_slackWithMint_114 ?_
      exact hre _ _ _ _ _ hf hP hD hS dX5_slackWithMint_115
    · have hf := (if_neg c17).symm.trans hf
      refine lv_ldc (v := (-1000000)) hx hb hown c61 dX5_slackWithMint_96 ?_
      refine lv_goto (tgt := 115) hx hb dX5_slackWithMint_98 (by decide) ?_
      exact hre _ _ _ _ _ hf hP hD hS dX5_slackWithMint_115
  unfold FL_slackWithMint at hf
  refine lv_aload_n hx hb dX5_slackWithMint_0 rfl (lv_at hl 0 rfl) ?_
  refine lv_iload_n hx hb dX5_slackWithMint_1 rfl (lv_at hl 1 rfl) ?_
  obtain ⟨r1, hr1, hf⟩ := bi_some hf
  refine kz_v (ci := 4) (q0 := 0) (n := 1) S hRf hRl hK hA hZ hP hD hS hl [0, 1, 2, 3, 4] [.int a1] [] (kL_dumb l D uL cI cB cR cM cJ t σL a1 r1 hr1) rfl rfl rfl gX5_slackWithMint_X5_dumb rfl (by decide +kernel) rfl ⟨by decide, by decide⟩ rfl rfl rfl rfl (Nat.le_of_ble_eq_true rfl) dX5_slackWithMint_2 (fun H locs hP hD hS => ?_)
  replace hP : va_P D vwCl (xL uL cI cB cR cM cJ σL) H := hP
  replace hD : va_D A (xL uL cI cB cR cM cJ σL) := hD
  refine W.eq (g2 := F0 m 5 ls [.int r1]) rfl ?_
  refine lv_if_ne (tgt := 16) hx hb dX5_slackWithMint_5 (by decide) (fun c2 => ?_) (fun c2 => ?_)
  · have hf := (if_neg c2).symm.trans hf
    refine lv_ldc (v := (-1000000)) hx hb hown c61 dX5_slackWithMint_16 ?_
    exact hre _ _ _ _ _ hf hP hD hS dX5_slackWithMint_18
  · have hf := (if_pos c2).symm.trans hf
    refine lv_aload_n hx hb dX5_slackWithMint_8 rfl (lv_at hl 0 rfl) ?_
    refine lv_iload_n hx hb dX5_slackWithMint_9 rfl (lv_at hl 1 rfl) ?_
    obtain ⟨r3, hr3, hf⟩ := bi_some hf
    refine kz_v (ci := 4) (q0 := 0) (n := 1) S hRf hRl hK hA hZ hP hD hS hl [0, 1, 2, 3, 4] [.int a1] [] (kL_forged l D uL cI cB cR cM cJ t σL a1 r3 hr3) rfl rfl rfl gX5_slackWithMint_X5_forged rfl (by decide +kernel) rfl ⟨by decide, by decide⟩ rfl rfl rfl rfl (Nat.le_of_ble_eq_true rfl) dX5_slackWithMint_10 (fun H locs hP hD hS => ?_)
    replace hP : va_P D vwCl (xL uL cI cB cR cM cJ σL) H := hP
    replace hD : va_D A (xL uL cI cB cR cM cJ σL) := hD
    refine W.eq (g2 := F0 m 13 ls [.int r3]) rfl ?_
    refine lv_if_eq (tgt := 19) hx hb dX5_slackWithMint_13 (by decide) (fun c4 => ?_) (fun c4 => ?_)
    · have hf := (if_pos c4).symm.trans hf
      refine lv_aload_n hx hb dX5_slackWithMint_19 rfl (lv_at hl 0 rfl) ?_
      refine lv_iload_n hx hb dX5_slackWithMint_20 rfl (lv_at hl 1 rfl) ?_
      refine lv_iconst (v := 3) hx hb dX5_slackWithMint_21 (by decide) ?_
      obtain ⟨r5, hr5, hf⟩ := bi_some hf
      refine kz_v (ci := 4) (q0 := 0) (n := 2) S hRf hRl hK hA hZ hP hD hS hl [0, 1, 2, 3, 4] [.int a1, .int 3] [] (kL_about l D uL cI cB cR cM cJ t σL a1 3 r5 hr5) rfl rfl rfl gX5_slackWithMint_X5_about rfl (by decide +kernel) rfl ⟨by decide, by decide⟩ rfl rfl rfl rfl (Nat.le_of_ble_eq_true rfl) dX5_slackWithMint_22 (fun H locs hP hD hS => ?_)
      replace hP : va_P D vwCl (xL uL cI cB cR cM cJ σL) H := hP
      replace hD : va_D A (xL uL cI cB cR cM cJ σL) := hD
      refine W.eq (g2 := F0 m 25 ls [.int r5]) rfl ?_
      refine lv_istore_n (lv' := [(3, .int r5), (0, .ref (uL 0)), (1, .int a1), (2, .int a2)]) hx hb dX5_slackWithMint_25 rfl hl (by decide) rfl (fun ls hl => ?_)
      refine lv_aload_n hx hb dX5_slackWithMint_26 rfl (lv_at hl 1 rfl) ?_
      refine Lg_0 S hinX5 hK hP 0 rfl f11 dX5_slackWithMint_27 ?_
      refine lv_aload_n hx hb dX5_slackWithMint_30 rfl (lv_at hl 1 rfl) ?_
      refine lv_iload_n hx hb dX5_slackWithMint_31 rfl (lv_at hl 2 rfl) ?_
      obtain ⟨r6, hr6, hf⟩ := bi_some hf
      refine kz_v (ci := 4) (q0 := 0) (n := 1) S hRf hRl hK hA hZ hP hD hS hl [0, 1, 2, 3, 4] [.int a1] [.ref (uL 1)] (kL_townOf l D uL cI cB cR cM cJ t σL a1 r6 hr6) rfl rfl rfl gX5_slackWithMint_X5_townOf rfl (by decide +kernel) rfl ⟨by decide, by decide⟩ rfl rfl rfl rfl (Nat.le_of_ble_eq_true rfl) dX5_slackWithMint_32 (fun H locs hP hD hS => ?_)
      replace hP : va_P D vwCl (xL uL cI cB cR cM cJ σL) H := hP
      replace hD : va_D A (xL uL cI cB cR cM cJ σL) := hD
      refine W.eq (g2 := F0 m 35 ls [.int r6, .ref (uL 1)]) rfl ?_
      refine lv_bipush (v := 8) hx hb dX5_slackWithMint_35 (by decide) ?_
      refine lv_imul hx hb dX5_slackWithMint_37 ?_
      refine lv_iconst (v := 0) hx hb dX5_slackWithMint_38 (by decide) ?_
      refine lv_iadd hx hb dX5_slackWithMint_39 ?_
      obtain ⟨g7, hf⟩ := gd_some hf
      refine va_iald (f := σL.2 0) (n := 64) (cA := cI) hx hb hK hP 1 0 rfl rfl g7 dX5_slackWithMint_40 ?_
      refine lv_topi (fun x8 ex8 => ?_)
      have hf := nm_at ex8 hf
      refine lv_istore (lv' := [(4, .int x8), (3, .int r5), (0, .ref (uL 0)), (1, .int a1), (2, .int a2)]) hx hb dX5_slackWithMint_41 hl (by decide) rfl (fun ls hl => ?_)
      refine lv_aload_n hx hb dX5_slackWithMint_43 rfl (lv_at hl 2 rfl) ?_
      refine lv_iload_n hx hb dX5_slackWithMint_44 rfl (lv_at hl 3 rfl) ?_
      obtain ⟨r9, hr9, hf⟩ := bi_some hf
      refine kz_v (ci := 4) (q0 := 0) (n := 1) S hRf hRl hK hA hZ hP hD hS hl [0, 1, 2, 3, 4] [.int a1] [] (kL_withHolder l D uL cI cB cR cM cJ t σL a1 r9 hr9) rfl rfl rfl gX5_slackWithMint_X5_withHolder rfl (by decide +kernel) rfl ⟨by decide, by decide⟩ rfl rfl rfl rfl (Nat.le_of_ble_eq_true rfl) dX5_slackWithMint_45 (fun H locs hP hD hS => ?_)
      replace hP : va_P D vwCl (xL uL cI cB cR cM cJ σL) H := hP
      replace hD : va_D A (xL uL cI cB cR cM cJ σL) := hD
      refine W.eq (g2 := F0 m 48 ls [.int r9]) rfl ?_
      refine lv_if_eq (tgt := 75) hx hb dX5_slackWithMint_48 (by decide) (fun c10 => ?_) (fun c10 => ?_)
      · have hf := (if_pos c10).symm.trans hf
        refine lv_aload_n hx hb dX5_slackWithMint_75 rfl (lv_at hl 2 rfl) ?_
        refine lv_iload_n hx hb dX5_slackWithMint_76 rfl (lv_at hl 3 rfl) ?_
        refine lv_iconst (v := 2) hx hb dX5_slackWithMint_77 (by decide) ?_
        obtain ⟨r11, hr11, hf⟩ := bi_some hf
        refine kz_v (ci := 4) (q0 := 0) (n := 2) S hRf hRl hK hA hZ hP hD hS hl [0, 1, 2, 3, 4] [.int a1, .int 2] [] (kL_about l D uL cI cB cR cM cJ t σL a1 2 r11 hr11) rfl rfl rfl gX5_slackWithMint_X5_about rfl (by decide +kernel) rfl ⟨by decide, by decide⟩ rfl rfl rfl rfl (Nat.le_of_ble_eq_true rfl) dX5_slackWithMint_78 (fun H locs hP hD hS => ?_)
        replace hP : va_P D vwCl (xL uL cI cB cR cM cJ σL) H := hP
        replace hD : va_D A (xL uL cI cB cR cM cJ σL) := hD
        refine W.eq (g2 := F0 m 81 ls [.int r11]) rfl ?_
        refine lv_iconst (v := 2) hx hb dX5_slackWithMint_81 (by decide) ?_
        refine lv_icmp_ne (tgt := 90) hx hb dX5_slackWithMint_82 (by decide) (fun c12 => ?_) (fun c12 => ?_)
        · have hf := (if_neg c12).symm.trans hf
          exact b90 _ _ _ _ _ hf (lv_sub hl [2, 3, 1] rfl) hP hD hS
        · have hf := (if_pos c12).symm.trans hf
          refine lv_iload_n hx hb dX5_slackWithMint_85 rfl (lv_at hl 1 rfl) ?_
          refine lv_iload hx hb dX5_slackWithMint_86 (lv_at hl 0 rfl) ?_
          refine lv_iadd hx hb dX5_slackWithMint_88 ?_
          refine lv_topi (fun x13 ex13 => ?_)
          have hf := nm_at ex13 hf
          refine lv_istore_n (lv' := [(3, .int x13), (4, .int x8), (0, .ref (uL 0)), (1, .int a1), (2, .int a2)]) hx hb dX5_slackWithMint_89 rfl hl (by decide) rfl (fun ls hl => ?_)
          exact b90 _ _ _ _ _ hf (lv_sub hl [2, 3, 0] rfl) hP hD hS
      · have hf := (if_neg c10).symm.trans hf
        refine lv_iload hx hb dX5_slackWithMint_51 (lv_at hl 0 rfl) ?_
        refine lv_aload_n hx hb dX5_slackWithMint_53 rfl (lv_at hl 2 rfl) ?_
        refine Lg_0 S hinX5 hK hP 0 rfl f11 dX5_slackWithMint_54 ?_
        refine lv_aload_n hx hb dX5_slackWithMint_57 rfl (lv_at hl 2 rfl) ?_
        refine lv_iload_n hx hb dX5_slackWithMint_58 rfl (lv_at hl 3 rfl) ?_
        obtain ⟨r14, hr14, hf⟩ := bi_some hf
        refine kz_v (ci := 4) (q0 := 0) (n := 1) S hRf hRl hK hA hZ hP hD hS hl [0, 1, 2, 3, 4] [.int a1] [.ref (uL 1), .int x8] (kL_townOf l D uL cI cB cR cM cJ t σL a1 r14 hr14) rfl rfl rfl gX5_slackWithMint_X5_townOf rfl (by decide +kernel) rfl ⟨by decide, by decide⟩ rfl rfl rfl rfl (Nat.le_of_ble_eq_true rfl) dX5_slackWithMint_59 (fun H locs hP hD hS => ?_)
        replace hP : va_P D vwCl (xL uL cI cB cR cM cJ σL) H := hP
        replace hD : va_D A (xL uL cI cB cR cM cJ σL) := hD
        refine W.eq (g2 := F0 m 62 ls [.int r14, .ref (uL 1), .int x8]) rfl ?_
        refine lv_bipush (v := 8) hx hb dX5_slackWithMint_62 (by decide) ?_
        refine lv_imul hx hb dX5_slackWithMint_64 ?_
        refine lv_iload_n hx hb dX5_slackWithMint_65 rfl (lv_at hl 4 rfl) ?_
        refine lv_iadd hx hb dX5_slackWithMint_66 ?_
        obtain ⟨g15, hf⟩ := gd_some hf
        refine va_iald (f := σL.2 0) (n := 64) (cA := cI) hx hb hK hP 1 0 rfl rfl g15 dX5_slackWithMint_67 ?_
        refine va_mmin hx hb (hml.trans hl.1.symm) hown ml51 msmin mini mcmin (by rw [hRf]; decide) (by rw [hRl]; exact Nat.le_of_ble_eq_true rfl) (Nat.zero_le _) (Nat.zero_le _) dX5_slackWithMint_68 ?_
        refine lv_topi (fun x16 ex16 => ?_)
        have hf := nm_at ex16 hf
        refine lv_istore_n (lv' := [(3, .int x16), (4, .int x8), (0, .ref (uL 0)), (1, .int a1), (2, .int a2)]) hx hb dX5_slackWithMint_71 rfl hl (by decide) rfl (fun ls hl => ?_)
        refine lv_goto (tgt := 90) hx hb dX5_slackWithMint_72 (by decide) ?_
        exact b90 _ _ _ _ _ hf (lv_sub hl [2, 3, 0] rfl) hP hD hS
    · have hf := (if_neg c4).symm.trans hf
      refine lv_ldc (v := (-1000000)) hx hb hown c61 dX5_slackWithMint_16 ?_
      exact hre _ _ _ _ _ hf hP hD hS dX5_slackWithMint_18
def FL_slackOf (σL : MS) (a1 : Int32) : Option Int32 :=
  Option.bind (FL_slackWithMint σL a1 0) fun (r1 : Int32) => some (r1)
set_option maxHeartbeats 4000000 in
set_option maxRecDepth 100000 in
theorem kL_slackOf (l : Launch) (D : va_G) (uL : Nat → Nat) (cI cB cR cM cJ : ClassId) (t : Nat → Nat) (σL : MS) (a1 : Int32) (r : Int32) (hf : FL_slackOf σL a1 = some (r)) : KZ l D (ctys cI cB cR cM cJ) t yX5_slackOf wsX5_slackOf 3 67 [.ref (uL 0), .int a1] (xL uL cI cB cR cM cJ σL) (some (.int r)) (xL uL cI cB cR cM cJ σL) := by
  refine KZ.ofI (own := RX5) (cc := cX5_slackOf) (maxL := 2) (by decide) rfl rfl (Nat.le_of_ble_eq_true rfl) ?_
  intro p e s m args below meth c R Q A ls S hRf hRl hK hA hP hD hS hl hZ hret
  obtain ⟨hx, hb, hml, hown, hts⟩ := id S
  have hl : lv_has ls 2 [(0, .ref (uL 0)), (1, .int a1)] := hl
  have hre : ∀ (x : Int32) (pc : Nat) (ls : Array Slot) (H : Heap) (locs : List Loc), (some (x) : Option Int32) = some (r) → va_P D vwCl (xL uL cI cB cR cM cJ σL) H → va_D A (xL uL cI cB cR cM cJ σL) → va_S A s.heap H locs → decode cX5_slackOf pc = .ok (.ireturn, 1) → W p l e R s m args below meth c H locs 0 0 Q (F0 m pc ls [.int x]) := by intro x pc ls H locs he; cases he; exact hret pc ls H locs
  unfold FL_slackOf at hf
  refine lv_aload_n hx hb dX5_slackOf_0 rfl (lv_at hl 0 rfl) ?_
  refine lv_iload_n hx hb dX5_slackOf_1 rfl (lv_at hl 1 rfl) ?_
  refine lv_iconst (v := 0) hx hb dX5_slackOf_2 (by decide) ?_
  obtain ⟨r1, hr1, hf⟩ := bi_some hf
  refine kz_v (ci := 4) (q0 := 0) (n := 2) S hRf hRl hK hA hZ hP hD hS hl [0, 1, 2, 3, 4] [.int a1, .int 0] [] (kL_slackWithMint l D uL cI cB cR cM cJ t σL a1 0 r1 hr1) rfl rfl rfl gX5_slackOf_X5_slackWithMint rfl (by decide +kernel) rfl ⟨by decide, by decide⟩ rfl rfl rfl rfl (Nat.le_of_ble_eq_true rfl) dX5_slackOf_3 (fun H locs hP hD hS => ?_)
  replace hP : va_P D vwCl (xL uL cI cB cR cM cJ σL) H := hP
  replace hD : va_D A (xL uL cI cB cR cM cJ σL) := hD
  refine W.eq (g2 := F0 m 6 ls [.int r1]) rfl ?_
  exact hre _ _ _ _ _ hf hP hD hS dX5_slackOf_6
def FL_isLate (a0 : Int32) : Option Int32 :=
  if a0 = (-1000000) then (some (0)) else (if 0 ≤ a0 then (some (0)) else (some (1)))
set_option maxHeartbeats 4000000 in
set_option maxRecDepth 100000 in
theorem kL_isLate (l : Launch) (D : va_G) (cI cB cR cM cJ : ClassId) (t : Nat → Nat) (w0 : va_W) (a0 : Int32) (r : Int32) (hf : FL_isLate a0 = some (r)) : KZ l D (ctys cI cB cR cM cJ) t yX5_isLate wsX5_isLate 0 0 [.int a0] w0 (some (.int r)) w0 := by
  refine KZ.ofZ (own := RX5) (cc := cX5_isLate) (maxL := 1) (by decide) rfl rfl (Nat.le_of_ble_eq_true rfl) ?_
  intro p e s m args below meth c R Q A ls S hRf hRl hK hA hP hD hS hl hZ hret
  obtain ⟨hx, hb, hml, hown, hts⟩ := id S
  have c61 := hts (.constant RX5 61 (-1000000)) (by decide +kernel)
  have hl : lv_has ls 1 [(0, .int a0)] := hl
  have hre : ∀ (x : Int32) (pc : Nat) (ls : Array Slot) (H : Heap) (locs : List Loc), (some (x) : Option Int32) = some (r) → va_P D vwCl w0 H → va_D A w0 → va_S A s.heap H locs → decode cX5_isLate pc = .ok (.ireturn, 1) → narrow .boolean (.int x) = .int x → W p l e R s m args below meth c H locs 0 0 Q (F0 m pc ls [.int x]) := by intro x pc ls H locs he; cases he; exact hret pc ls H locs
  unfold FL_isLate at hf
  refine lv_iload_n hx hb dX5_isLate_0 rfl (lv_at hl 0 rfl) ?_
  refine lv_ldc (v := (-1000000)) hx hb hown c61 dX5_isLate_1 ?_
  refine lv_icmp_eq (tgt := 14) hx hb dX5_isLate_3 (by decide) (fun c1 => ?_) (fun c1 => ?_)
  · have hf := (if_pos c1).symm.trans hf
    refine lv_iconst (v := 0) hx hb dX5_isLate_14 (by decide) ?_
    exact hre _ _ _ _ _ hf hP hD hS dX5_isLate_15 rfl
  · have hf := (if_neg c1).symm.trans hf
    refine lv_iload_n hx hb dX5_isLate_6 rfl (lv_at hl 0 rfl) ?_
    refine lv_if_ge (tgt := 14) hx hb dX5_isLate_7 (by decide) (fun c2 => ?_) (fun c2 => ?_)
    · have hf := (if_pos c2).symm.trans hf
      refine lv_iconst (v := 0) hx hb dX5_isLate_14 (by decide) ?_
      exact hre _ _ _ _ _ hf hP hD hS dX5_isLate_15 rfl
    · have hf := (if_neg c2).symm.trans hf
      refine lv_iconst (v := 1) hx hb dX5_isLate_10 (by decide) ?_
      refine lv_goto (tgt := 15) hx hb dX5_isLate_11 (by decide) ?_
      exact hre _ _ _ _ _ hf hP hD hS dX5_isLate_15 rfl
def FL_worthOf_20 (σL : MS) : Option Int32 :=
  some (0)
def FL_worthOf (σL : MS) (a1 : Int32) : Option Int32 :=
  Option.bind (FL_slackOf σL a1) fun (r1 : Int32) => Option.bind (FL_spanOf σL a1) fun (r2 : Int32) => if r1 ≤ 0 then (FL_worthOf_20 σL) else (if 0 < r2 then (gd (¬ (r2 : Int32) = 0) (some (((100 * r1) / r2)))) else (FL_worthOf_20 σL))
set_option maxHeartbeats 4000000 in
set_option maxRecDepth 100000 in
theorem kL_worthOf (l : Launch) (D : va_G) (uL : Nat → Nat) (cI cB cR cM cJ : ClassId) (t : Nat → Nat) (σL : MS) (a1 : Int32) (r : Int32) (hf : FL_worthOf σL a1 = some (r)) : KZ l D (ctys cI cB cR cM cJ) t yX5_worthOf wsX5_worthOf 4 88 [.ref (uL 0), .int a1] (xL uL cI cB cR cM cJ σL) (some (.int r)) (xL uL cI cB cR cM cJ σL) := by
  refine KZ.ofI (own := RX5) (cc := cX5_worthOf) (maxL := 4) (by decide) rfl rfl (Nat.le_of_ble_eq_true rfl) ?_
  intro p e s m args below meth c R Q A ls S hRf hRl hK hA hP hD hS hl hZ hret
  obtain ⟨hx, hb, hml, hown, hts⟩ := id S
  have hl : lv_has ls 4 [(0, .ref (uL 0)), (1, .int a1)] := hl
  have hre : ∀ (x : Int32) (pc : Nat) (ls : Array Slot) (H : Heap) (locs : List Loc), (some (x) : Option Int32) = some (r) → va_P D vwCl (xL uL cI cB cR cM cJ σL) H → va_D A (xL uL cI cB cR cM cJ σL) → va_S A s.heap H locs → decode cX5_worthOf pc = .ok (.ireturn, 1) → W p l e R s m args below meth c H locs 0 0 Q (F0 m pc ls [.int x]) := by intro x pc ls H locs he; cases he; exact hret pc ls H locs
  have b20 : ∀ (ls : Array Slot) (H : Heap) (locs : List Loc), FL_worthOf_20 σL = some (r) → lv_has ls 4 [] → va_P D vwCl (xL uL cI cB cR cM cJ σL) H → va_D A (xL uL cI cB cR cM cJ σL) → va_S A s.heap H locs → W p l e R s m args below meth c H locs 0 0 Q (F0 m 20 ls []) := by
    intro ls H locs hf hl hP hD hS
    unfold FL_worthOf_20 at hf
    refine lv_iconst (v := 0) hx hb dX5_worthOf_20 (by decide) ?_
    refine lv_goto (tgt := 30) hx hb dX5_worthOf_21 (by decide) ?_
    exact hre _ _ _ _ _ hf hP hD hS dX5_worthOf_30
  unfold FL_worthOf at hf
  refine lv_aload_n hx hb dX5_worthOf_0 rfl (lv_at hl 0 rfl) ?_
  refine lv_iload_n hx hb dX5_worthOf_1 rfl (lv_at hl 1 rfl) ?_
  obtain ⟨r1, hr1, hf⟩ := bi_some hf
  refine kz_v (ci := 4) (q0 := 0) (n := 1) S hRf hRl hK hA hZ hP hD hS hl [0, 1, 2, 3, 4] [.int a1] [] (kL_slackOf l D uL cI cB cR cM cJ t σL a1 r1 hr1) rfl rfl rfl gX5_worthOf_X5_slackOf rfl (by decide +kernel) rfl ⟨by decide, by decide⟩ rfl rfl rfl rfl (Nat.le_of_ble_eq_true rfl) dX5_worthOf_2 (fun H locs hP hD hS => ?_)
  replace hP : va_P D vwCl (xL uL cI cB cR cM cJ σL) H := hP
  replace hD : va_D A (xL uL cI cB cR cM cJ σL) := hD
  refine W.eq (g2 := F0 m 5 ls [.int r1]) rfl ?_
  refine lv_istore_n (lv' := [(2, .int r1), (0, .ref (uL 0)), (1, .int a1)]) hx hb dX5_worthOf_5 rfl hl (by decide) rfl (fun ls hl => ?_)
  refine lv_aload_n hx hb dX5_worthOf_6 rfl (lv_at hl 1 rfl) ?_
  refine lv_iload_n hx hb dX5_worthOf_7 rfl (lv_at hl 2 rfl) ?_
  obtain ⟨r2, hr2, hf⟩ := bi_some hf
  refine kz_v (ci := 4) (q0 := 0) (n := 1) S hRf hRl hK hA hZ hP hD hS hl [0, 1, 2, 3, 4] [.int a1] [] (kL_spanOf l D uL cI cB cR cM cJ t σL a1 r2 hr2) rfl rfl rfl gX5_worthOf_X5_spanOf rfl (by decide +kernel) rfl ⟨by decide, by decide⟩ rfl rfl rfl rfl (Nat.le_of_ble_eq_true rfl) dX5_worthOf_8 (fun H locs hP hD hS => ?_)
  replace hP : va_P D vwCl (xL uL cI cB cR cM cJ σL) H := hP
  replace hD : va_D A (xL uL cI cB cR cM cJ σL) := hD
  refine W.eq (g2 := F0 m 11 ls [.int r2]) rfl ?_
  refine lv_istore_n (lv' := [(3, .int r2), (2, .int r1), (0, .ref (uL 0)), (1, .int a1)]) hx hb dX5_worthOf_11 rfl hl (by decide) rfl (fun ls hl => ?_)
  refine lv_iload_n hx hb dX5_worthOf_12 rfl (lv_at hl 1 rfl) ?_
  refine lv_if_le (tgt := 20) hx hb dX5_worthOf_13 (by decide) (fun c3 => ?_) (fun c3 => ?_)
  · have hf := (if_pos c3).symm.trans hf
    exact b20 _ _ _ hf (lv_sub hl [] rfl) hP hD hS
  · have hf := (if_neg c3).symm.trans hf
    refine lv_iload_n hx hb dX5_worthOf_16 rfl (lv_at hl 0 rfl) ?_
    refine lv_if_gt (tgt := 24) hx hb dX5_worthOf_17 (by decide) (fun c4 => ?_) (fun c4 => ?_)
    · have hf := (if_pos c4).symm.trans hf
      refine lv_bipush (v := 100) hx hb dX5_worthOf_24 (by decide) ?_
      refine lv_iload_n hx hb dX5_worthOf_26 rfl (lv_at hl 1 rfl) ?_
      refine lv_imul hx hb dX5_worthOf_27 ?_
      refine lv_iload_n hx hb dX5_worthOf_28 rfl (lv_at hl 0 rfl) ?_
      obtain ⟨g5, hf⟩ := gd_some hf
      refine lv_idiv hx hb dX5_worthOf_29 g5 ?_
      exact hre _ _ _ _ _ hf hP hD hS dX5_worthOf_30
    · have hf := (if_neg c4).symm.trans hf
      exact b20 _ _ _ hf (lv_sub hl [] rfl) hP hD hS
def FL_lateCoins_29 (ag4 : MS → Int32 → Int32 → Option Int32) (σL : MS) (l1 : Int32) (l2 : Int32) : Option Int32 :=
  nm (l2 + 1) fun (x6 : Int32) => ag4 σL l1 x6
def FL_lateCoins_4 : Nat → MS → Int32 → Int32 → Option Int32
  | 0, _, _, _ => none
  | n + 1, σL, l1, l2 => if (σL.1 7) ≤ l2 then (some (l1)) else (Option.bind (FL_slackOf σL l2) fun (r2 : Int32) => Option.bind (FL_isLate r2) fun (r3 : Int32) => if r3 = 0 then (FL_lateCoins_29 (FL_lateCoins_4 n) σL l1 l2) else (nm (l1 ||| (1 <<< (l2 &&& 31))) fun (x5 : Int32) => FL_lateCoins_29 (FL_lateCoins_4 n) σL x5 l2))
def FL_lateCoins (σL : MS) : Option Int32 :=
  FL_lateCoins_4 fuelN σL 0 0
set_option maxHeartbeats 4000000 in
set_option maxRecDepth 100000 in
theorem kL_lateCoins (l : Launch) (D : va_G) (uL : Nat → Nat) (cI cB cR cM cJ : ClassId) (t : Nat → Nat) (σL : MS) (r : Int32) (hf : FL_lateCoins σL = some (r)) : KZ l D (ctys cI cB cR cM cJ) t yX5_lateCoins wsX5_lateCoins 4 88 [.ref (uL 0)] (xL uL cI cB cR cM cJ σL) (some (.int r)) (xL uL cI cB cR cM cJ σL) := by
  refine KZ.ofI (own := RX5) (cc := cX5_lateCoins) (maxL := 3) (by decide) rfl rfl (Nat.le_of_ble_eq_true rfl) ?_
  intro p e s m args below meth c R Q A ls S hRf hRl hK hA hP hD hS hl hZ hret
  obtain ⟨hx, hb, hml, hown, hts⟩ := id S
  have f35 := hts (.fieldLink RX5 35 "PenniesAway$Realm" "coins" "I") (by decide +kernel)
  have hinX5 : ∀ w ∈ wsX50, w ∈ wsX5_lateCoins := fun w hw => List.mem_cons_of_mem _ (List.mem_append_right _ hw)
  have hl : lv_has ls 3 [(0, .ref (uL 0))] := hl
  have hre : ∀ (x : Int32) (pc : Nat) (ls : Array Slot) (H : Heap) (locs : List Loc), (some (x) : Option Int32) = some (r) → va_P D vwCl (xL uL cI cB cR cM cJ σL) H → va_D A (xL uL cI cB cR cM cJ σL) → va_S A s.heap H locs → decode cX5_lateCoins pc = .ok (.ireturn, 1) → W p l e R s m args below meth c H locs 0 0 Q (F0 m pc ls [.int x]) := by intro x pc ls H locs he; cases he; exact hret pc ls H locs
  have b29 : ∀ (ag4 : MS → Int32 → Int32 → Option Int32) (hag4 : ∀ (l1 : Int32) (l2 : Int32) (ls : Array Slot) (H : Heap) (locs : List Loc), ag4 σL l1 l2 = some (r) → lv_has ls 3 [(0, .ref (uL 0)), (1, .int l1), (2, .int l2)] → va_P D vwCl (xL uL cI cB cR cM cJ σL) H → va_D A (xL uL cI cB cR cM cJ σL) → va_S A s.heap H locs → W p l e R s m args below meth c H locs 0 0 Q (F0 m 4 ls [])), ∀ (l1 : Int32) (l2 : Int32) (ls : Array Slot) (H : Heap) (locs : List Loc), FL_lateCoins_29 ag4 σL l1 l2 = some (r) → lv_has ls 3 [(0, .ref (uL 0)), (1, .int l1), (2, .int l2)] → va_P D vwCl (xL uL cI cB cR cM cJ σL) H → va_D A (xL uL cI cB cR cM cJ σL) → va_S A s.heap H locs → W p l e R s m args below meth c H locs 0 0 Q (F0 m 29 ls []) := by
    intro ag4 hag4 l1 l2 ls H locs hf hl hP hD hS
    unfold FL_lateCoins_29 at hf
    obtain ⟨x6, ex6, hf⟩ := nm_some hf
    refine lv_iinc (v := x6) (lv' := [(2, .int x6), (0, .ref (uL 0)), (1, .int l1)]) hx hb dX5_lateCoins_29 hl (k := 2) rfl (by rw [ex6]; rfl) (by decide) rfl (fun ls hl => ?_)
    refine lv_goto (tgt := 4) hx hb dX5_lateCoins_32 (by decide) ?_
    exact hag4 _ _ _ _ _ hf (lv_sub hl [1, 2, 0] rfl) hP hD hS
  have b4 : ∀ (n : Nat), ∀ (l1 : Int32) (l2 : Int32) (ls : Array Slot) (H : Heap) (locs : List Loc), FL_lateCoins_4 n σL l1 l2 = some (r) → lv_has ls 3 [(0, .ref (uL 0)), (1, .int l1), (2, .int l2)] → va_P D vwCl (xL uL cI cB cR cM cJ σL) H → va_D A (xL uL cI cB cR cM cJ σL) → va_S A s.heap H locs → W p l e R s m args below meth c H locs 0 0 Q (F0 m 4 ls []) := by
    intro n
    induction n with
    | zero => intro l1 l2 ls H locs hf; exact absurd hf (by simp [FL_lateCoins_4])
    | succ n ih =>
      intro l1 l2 ls H locs hf hl hP hD hS
      rw [FL_lateCoins_4] at hf
      refine lv_iload_n hx hb dX5_lateCoins_4 rfl (lv_at hl 2 rfl) ?_
      refine lv_aload_n hx hb dX5_lateCoins_5 rfl (lv_at hl 0 rfl) ?_
      refine Lg_7 S hinX5 hK hP 0 rfl f35 dX5_lateCoins_6 ?_
      refine lv_icmp_ge (tgt := 35) hx hb dX5_lateCoins_9 (by decide) (fun c1 => ?_) (fun c1 => ?_)
      · have hf := (if_pos c1).symm.trans hf
        refine lv_iload_n hx hb dX5_lateCoins_35 rfl (lv_at hl 1 rfl) ?_
        exact hre _ _ _ _ _ hf hP hD hS dX5_lateCoins_36
      · have hf := (if_neg c1).symm.trans hf
        refine lv_aload_n hx hb dX5_lateCoins_12 rfl (lv_at hl 0 rfl) ?_
        refine lv_iload_n hx hb dX5_lateCoins_13 rfl (lv_at hl 2 rfl) ?_
        obtain ⟨r2, hr2, hf⟩ := bi_some hf
        refine kz_v (ci := 4) (q0 := 0) (n := 1) S hRf hRl hK hA hZ hP hD hS hl [0, 1, 2, 3, 4] [.int l2] [] (kL_slackOf l D uL cI cB cR cM cJ t σL l2 r2 hr2) rfl rfl rfl gX5_lateCoins_X5_slackOf rfl (by decide +kernel) rfl ⟨by decide, by decide⟩ rfl rfl rfl rfl (Nat.le_of_ble_eq_true rfl) dX5_lateCoins_14 (fun H locs hP hD hS => ?_)
        replace hP : va_P D vwCl (xL uL cI cB cR cM cJ σL) H := hP
        replace hD : va_D A (xL uL cI cB cR cM cJ σL) := hD
        refine W.eq (g2 := F0 m 17 ls [.int r2]) rfl ?_
        obtain ⟨r3, hr3, hf⟩ := bi_some hf
        refine kz_s (n := 1) S hRf hRl hK hA hZ hP hD hS hl [] [.int r2] [] (kL_isLate l D cI cB cR cM cJ t [] r2 r3 hr3) rfl rfl rfl gX5_lateCoins_X5_isLate rfl (by decide +kernel) rfl ⟨by decide, by decide⟩ rfl (Nat.le_of_ble_eq_true rfl) dX5_lateCoins_17 (fun H locs hP hD hS => ?_)
        replace hP : va_P D vwCl (xL uL cI cB cR cM cJ σL) H := hP
        replace hD : va_D A (xL uL cI cB cR cM cJ σL) := hD
        refine W.eq (g2 := F0 m 20 ls [.int r3]) rfl ?_
        refine lv_if_eq (tgt := 29) hx hb dX5_lateCoins_20 (by decide) (fun c4 => ?_) (fun c4 => ?_)
        · have hf := (if_pos c4).symm.trans hf
          exact b29 (FL_lateCoins_4 n) ih _ _ _ _ _ hf (lv_sub hl [0, 1, 2] rfl) hP hD hS
        · have hf := (if_neg c4).symm.trans hf
          refine lv_iload_n hx hb dX5_lateCoins_23 rfl (lv_at hl 1 rfl) ?_
          refine lv_iconst (v := 1) hx hb dX5_lateCoins_24 (by decide) ?_
          refine lv_iload_n hx hb dX5_lateCoins_25 rfl (lv_at hl 2 rfl) ?_
          refine lv_ishl hx hb dX5_lateCoins_26 ?_
          refine lv_ior hx hb dX5_lateCoins_27 ?_
          refine lv_topi (fun x5 ex5 => ?_)
          have hf := nm_at ex5 hf
          refine lv_istore_n (lv' := [(1, .int x5), (0, .ref (uL 0)), (2, .int l2)]) hx hb dX5_lateCoins_28 rfl hl (by decide) rfl (fun ls hl => ?_)
          exact b29 (FL_lateCoins_4 n) ih _ _ _ _ _ hf (lv_sub hl [1, 0, 2] rfl) hP hD hS
  unfold FL_lateCoins at hf
  refine lv_iconst (v := 0) hx hb dX5_lateCoins_0 (by decide) ?_
  refine lv_istore_n (lv' := [(1, .int 0), (0, .ref (uL 0))]) hx hb dX5_lateCoins_1 rfl hl (by decide) rfl (fun ls hl => ?_)
  refine lv_iconst (v := 0) hx hb dX5_lateCoins_2 (by decide) ?_
  refine lv_istore_n (lv' := [(2, .int 0), (1, .int 0), (0, .ref (uL 0))]) hx hb dX5_lateCoins_3 rfl hl (by decide) rfl (fun ls hl => ?_)
  exact b4 fuelN _ _ _ _ _ hf (lv_sub hl [2, 1, 0] rfl) hP hD hS
def FL_slackAtHolder (σL : MS) (a1 : Int32) : Option Int32 :=
  Option.bind (FL_withHolder σL a1) fun (r1 : Int32) => if r1 = 0 then (some ((-1000000))) else (Option.bind (FL_slackWithMint σL a1 0) fun (r3 : Int32) => some (r3))
set_option maxHeartbeats 4000000 in
set_option maxRecDepth 100000 in
theorem kL_slackAtHolder (l : Launch) (D : va_G) (uL : Nat → Nat) (cI cB cR cM cJ : ClassId) (t : Nat → Nat) (σL : MS) (a1 : Int32) (r : Int32) (hf : FL_slackAtHolder σL a1 = some (r)) : KZ l D (ctys cI cB cR cM cJ) t yX5_slackAtHolder wsX5_slackAtHolder 3 67 [.ref (uL 0), .int a1] (xL uL cI cB cR cM cJ σL) (some (.int r)) (xL uL cI cB cR cM cJ σL) := by
  refine KZ.ofI (own := RX5) (cc := cX5_slackAtHolder) (maxL := 2) (by decide) rfl rfl (Nat.le_of_ble_eq_true rfl) ?_
  intro p e s m args below meth c R Q A ls S hRf hRl hK hA hP hD hS hl hZ hret
  obtain ⟨hx, hb, hml, hown, hts⟩ := id S
  have c61 := hts (.constant RX5 61 (-1000000)) (by decide +kernel)
  have hl : lv_has ls 2 [(0, .ref (uL 0)), (1, .int a1)] := hl
  have hre : ∀ (x : Int32) (pc : Nat) (ls : Array Slot) (H : Heap) (locs : List Loc), (some (x) : Option Int32) = some (r) → va_P D vwCl (xL uL cI cB cR cM cJ σL) H → va_D A (xL uL cI cB cR cM cJ σL) → va_S A s.heap H locs → decode cX5_slackAtHolder pc = .ok (.ireturn, 1) → W p l e R s m args below meth c H locs 0 0 Q (F0 m pc ls [.int x]) := by intro x pc ls H locs he; cases he; exact hret pc ls H locs
  unfold FL_slackAtHolder at hf
  refine lv_aload_n hx hb dX5_slackAtHolder_0 rfl (lv_at hl 0 rfl) ?_
  refine lv_iload_n hx hb dX5_slackAtHolder_1 rfl (lv_at hl 1 rfl) ?_
  obtain ⟨r1, hr1, hf⟩ := bi_some hf
  refine kz_v (ci := 4) (q0 := 0) (n := 1) S hRf hRl hK hA hZ hP hD hS hl [0, 1, 2, 3, 4] [.int a1] [] (kL_withHolder l D uL cI cB cR cM cJ t σL a1 r1 hr1) rfl rfl rfl gX5_slackAtHolder_X5_withHolder rfl (by decide +kernel) rfl ⟨by decide, by decide⟩ rfl rfl rfl rfl (Nat.le_of_ble_eq_true rfl) dX5_slackAtHolder_2 (fun H locs hP hD hS => ?_)
  replace hP : va_P D vwCl (xL uL cI cB cR cM cJ σL) H := hP
  replace hD : va_D A (xL uL cI cB cR cM cJ σL) := hD
  refine W.eq (g2 := F0 m 5 ls [.int r1]) rfl ?_
  refine lv_if_eq (tgt := 17) hx hb dX5_slackAtHolder_5 (by decide) (fun c2 => ?_) (fun c2 => ?_)
  · have hf := (if_pos c2).symm.trans hf
    refine lv_ldc (v := (-1000000)) hx hb hown c61 dX5_slackAtHolder_17 ?_
    exact hre _ _ _ _ _ hf hP hD hS dX5_slackAtHolder_19
  · have hf := (if_neg c2).symm.trans hf
    refine lv_aload_n hx hb dX5_slackAtHolder_8 rfl (lv_at hl 0 rfl) ?_
    refine lv_iload_n hx hb dX5_slackAtHolder_9 rfl (lv_at hl 1 rfl) ?_
    refine lv_iconst (v := 0) hx hb dX5_slackAtHolder_10 (by decide) ?_
    obtain ⟨r3, hr3, hf⟩ := bi_some hf
    refine kz_v (ci := 4) (q0 := 0) (n := 2) S hRf hRl hK hA hZ hP hD hS hl [0, 1, 2, 3, 4] [.int a1, .int 0] [] (kL_slackWithMint l D uL cI cB cR cM cJ t σL a1 0 r3 hr3) rfl rfl rfl gX5_slackAtHolder_X5_slackWithMint rfl (by decide +kernel) rfl ⟨by decide, by decide⟩ rfl rfl rfl rfl (Nat.le_of_ble_eq_true rfl) dX5_slackAtHolder_11 (fun H locs hP hD hS => ?_)
    replace hP : va_P D vwCl (xL uL cI cB cR cM cJ σL) H := hP
    replace hD : va_D A (xL uL cI cB cR cM cJ σL) := hD
    refine W.eq (g2 := F0 m 14 ls [.int r3]) rfl ?_
    refine lv_goto (tgt := 19) hx hb dX5_slackAtHolder_14 (by decide) ?_
    exact hre _ _ _ _ _ hf hP hD hS dX5_slackAtHolder_19
def FL_coinsToGo_36 (ag4 : MS → Int32 → Int32 → Int32 → Option Int32) (σL : MS) (l1 : Int32) (l2 : Int32) (l3 : Int32) : Option Int32 :=
  nm (l3 + 1) fun (x6 : Int32) => ag4 σL l1 l2 x6
def FL_coinsToGo_4 : Nat → MS → Int32 → Int32 → Int32 → Option Int32
  | 0, _, _, _, _ => none
  | n + 1, σL, l1, l2, l3 => if (σL.1 7) ≤ l3 then (some (l2)) else (Option.bind (FL_slackAtHolder σL l3) fun (r2 : Int32) => if r2 < 0 then (FL_coinsToGo_36 (FL_coinsToGo_4 n) σL l1 l2 l3) else (if l1 ≤ r2 then (FL_coinsToGo_36 (FL_coinsToGo_4 n) σL l1 l2 l3) else (nm (l2 ||| (1 <<< (l3 &&& 31))) fun (x5 : Int32) => FL_coinsToGo_36 (FL_coinsToGo_4 n) σL l1 x5 l3)))
def FL_coinsToGo (σL : MS) (a1 : Int32) : Option Int32 :=
  FL_coinsToGo_4 fuelN σL a1 0 0
set_option maxHeartbeats 4000000 in
set_option maxRecDepth 100000 in
theorem kL_coinsToGo (l : Launch) (D : va_G) (uL : Nat → Nat) (cI cB cR cM cJ : ClassId) (t : Nat → Nat) (σL : MS) (a1 : Int32) (r : Int32) (hf : FL_coinsToGo σL a1 = some (r)) : KZ l D (ctys cI cB cR cM cJ) t yX5_coinsToGo wsX5_coinsToGo 4 88 [.ref (uL 0), .int a1] (xL uL cI cB cR cM cJ σL) (some (.int r)) (xL uL cI cB cR cM cJ σL) := by
  refine KZ.ofI (own := RX5) (cc := cX5_coinsToGo) (maxL := 5) (by decide) rfl rfl (Nat.le_of_ble_eq_true rfl) ?_
  intro p e s m args below meth c R Q A ls S hRf hRl hK hA hP hD hS hl hZ hret
  obtain ⟨hx, hb, hml, hown, hts⟩ := id S
  have f35 := hts (.fieldLink RX5 35 "PenniesAway$Realm" "coins" "I") (by decide +kernel)
  have hinX5 : ∀ w ∈ wsX50, w ∈ wsX5_coinsToGo := fun w hw => List.mem_cons_of_mem _ (List.mem_append_right _ hw)
  have hl : lv_has ls 5 [(0, .ref (uL 0)), (1, .int a1)] := hl
  have hre : ∀ (x : Int32) (pc : Nat) (ls : Array Slot) (H : Heap) (locs : List Loc), (some (x) : Option Int32) = some (r) → va_P D vwCl (xL uL cI cB cR cM cJ σL) H → va_D A (xL uL cI cB cR cM cJ σL) → va_S A s.heap H locs → decode cX5_coinsToGo pc = .ok (.ireturn, 1) → W p l e R s m args below meth c H locs 0 0 Q (F0 m pc ls [.int x]) := by intro x pc ls H locs he; cases he; exact hret pc ls H locs
  have b36 : ∀ (ag4 : MS → Int32 → Int32 → Int32 → Option Int32) (hag4 : ∀ (l1 : Int32) (l2 : Int32) (l3 : Int32) (ls : Array Slot) (H : Heap) (locs : List Loc), ag4 σL l1 l2 l3 = some (r) → lv_has ls 5 [(0, .ref (uL 0)), (1, .int l1), (2, .int l2), (3, .int l3)] → va_P D vwCl (xL uL cI cB cR cM cJ σL) H → va_D A (xL uL cI cB cR cM cJ σL) → va_S A s.heap H locs → W p l e R s m args below meth c H locs 0 0 Q (F0 m 4 ls [])), ∀ (l1 : Int32) (l2 : Int32) (l3 : Int32) (ls : Array Slot) (H : Heap) (locs : List Loc), FL_coinsToGo_36 ag4 σL l1 l2 l3 = some (r) → lv_has ls 5 [(0, .ref (uL 0)), (1, .int l1), (2, .int l2), (3, .int l3)] → va_P D vwCl (xL uL cI cB cR cM cJ σL) H → va_D A (xL uL cI cB cR cM cJ σL) → va_S A s.heap H locs → W p l e R s m args below meth c H locs 0 0 Q (F0 m 36 ls []) := by
    intro ag4 hag4 l1 l2 l3 ls H locs hf hl hP hD hS
    unfold FL_coinsToGo_36 at hf
    obtain ⟨x6, ex6, hf⟩ := nm_some hf
    refine lv_iinc (v := x6) (lv' := [(3, .int x6), (0, .ref (uL 0)), (1, .int l1), (2, .int l2)]) hx hb dX5_coinsToGo_36 hl (k := 3) rfl (by rw [ex6]; rfl) (by decide) rfl (fun ls hl => ?_)
    refine lv_goto (tgt := 4) hx hb dX5_coinsToGo_39 (by decide) ?_
    exact hag4 _ _ _ _ _ _ hf (lv_sub hl [1, 2, 3, 0] rfl) hP hD hS
  have b4 : ∀ (n : Nat), ∀ (l1 : Int32) (l2 : Int32) (l3 : Int32) (ls : Array Slot) (H : Heap) (locs : List Loc), FL_coinsToGo_4 n σL l1 l2 l3 = some (r) → lv_has ls 5 [(0, .ref (uL 0)), (1, .int l1), (2, .int l2), (3, .int l3)] → va_P D vwCl (xL uL cI cB cR cM cJ σL) H → va_D A (xL uL cI cB cR cM cJ σL) → va_S A s.heap H locs → W p l e R s m args below meth c H locs 0 0 Q (F0 m 4 ls []) := by
    intro n
    induction n with
    | zero => intro l1 l2 l3 ls H locs hf; exact absurd hf (by simp [FL_coinsToGo_4])
    | succ n ih =>
      intro l1 l2 l3 ls H locs hf hl hP hD hS
      rw [FL_coinsToGo_4] at hf
      refine lv_iload_n hx hb dX5_coinsToGo_4 rfl (lv_at hl 3 rfl) ?_
      refine lv_aload_n hx hb dX5_coinsToGo_5 rfl (lv_at hl 0 rfl) ?_
      refine Lg_7 S hinX5 hK hP 0 rfl f35 dX5_coinsToGo_6 ?_
      refine lv_icmp_ge (tgt := 42) hx hb dX5_coinsToGo_9 (by decide) (fun c1 => ?_) (fun c1 => ?_)
      · have hf := (if_pos c1).symm.trans hf
        refine lv_iload_n hx hb dX5_coinsToGo_42 rfl (lv_at hl 2 rfl) ?_
        exact hre _ _ _ _ _ hf hP hD hS dX5_coinsToGo_43
      · have hf := (if_neg c1).symm.trans hf
        refine lv_aload_n hx hb dX5_coinsToGo_12 rfl (lv_at hl 0 rfl) ?_
        refine lv_iload_n hx hb dX5_coinsToGo_13 rfl (lv_at hl 3 rfl) ?_
        obtain ⟨r2, hr2, hf⟩ := bi_some hf
        refine kz_v (ci := 4) (q0 := 0) (n := 1) S hRf hRl hK hA hZ hP hD hS hl [0, 1, 2, 3, 4] [.int l3] [] (kL_slackAtHolder l D uL cI cB cR cM cJ t σL l3 r2 hr2) rfl rfl rfl gX5_coinsToGo_X5_slackAtHolder rfl (by decide +kernel) rfl ⟨by decide, by decide⟩ rfl rfl rfl rfl (Nat.le_of_ble_eq_true rfl) dX5_coinsToGo_14 (fun H locs hP hD hS => ?_)
        replace hP : va_P D vwCl (xL uL cI cB cR cM cJ σL) H := hP
        replace hD : va_D A (xL uL cI cB cR cM cJ σL) := hD
        refine W.eq (g2 := F0 m 17 ls [.int r2]) rfl ?_
        refine lv_istore (lv' := [(4, .int r2), (0, .ref (uL 0)), (1, .int l1), (2, .int l2), (3, .int l3)]) hx hb dX5_coinsToGo_17 hl (by decide) rfl (fun ls hl => ?_)
        refine lv_iload hx hb dX5_coinsToGo_19 (lv_at hl 0 rfl) ?_
        refine lv_if_lt (tgt := 36) hx hb dX5_coinsToGo_21 (by decide) (fun c3 => ?_) (fun c3 => ?_)
        · have hf := (if_pos c3).symm.trans hf
          exact b36 (FL_coinsToGo_4 n) ih _ _ _ _ _ _ hf (lv_sub hl [1, 2, 3, 4] rfl) hP hD hS
        · have hf := (if_neg c3).symm.trans hf
          refine lv_iload hx hb dX5_coinsToGo_24 (lv_at hl 0 rfl) ?_
          refine lv_iload_n hx hb dX5_coinsToGo_26 rfl (lv_at hl 2 rfl) ?_
          refine lv_icmp_ge (tgt := 36) hx hb dX5_coinsToGo_27 (by decide) (fun c4 => ?_) (fun c4 => ?_)
          · have hf := (if_pos c4).symm.trans hf
            exact b36 (FL_coinsToGo_4 n) ih _ _ _ _ _ _ hf (lv_sub hl [1, 2, 3, 4] rfl) hP hD hS
          · have hf := (if_neg c4).symm.trans hf
            refine lv_iload_n hx hb dX5_coinsToGo_30 rfl (lv_at hl 3 rfl) ?_
            refine lv_iconst (v := 1) hx hb dX5_coinsToGo_31 (by decide) ?_
            refine lv_iload_n hx hb dX5_coinsToGo_32 rfl (lv_at hl 4 rfl) ?_
            refine lv_ishl hx hb dX5_coinsToGo_33 ?_
            refine lv_ior hx hb dX5_coinsToGo_34 ?_
            refine lv_topi (fun x5 ex5 => ?_)
            have hf := nm_at ex5 hf
            refine lv_istore_n (lv' := [(2, .int x5), (4, .int r2), (0, .ref (uL 0)), (1, .int l1), (3, .int l3)]) hx hb dX5_coinsToGo_35 rfl hl (by decide) rfl (fun ls hl => ?_)
            exact b36 (FL_coinsToGo_4 n) ih _ _ _ _ _ _ hf (lv_sub hl [2, 3, 0, 4] rfl) hP hD hS
  unfold FL_coinsToGo at hf
  refine lv_iconst (v := 0) hx hb dX5_coinsToGo_0 (by decide) ?_
  refine lv_istore_n (lv' := [(2, .int 0), (0, .ref (uL 0)), (1, .int a1)]) hx hb dX5_coinsToGo_1 rfl hl (by decide) rfl (fun ls hl => ?_)
  refine lv_iconst (v := 0) hx hb dX5_coinsToGo_2 (by decide) ?_
  refine lv_istore_n (lv' := [(3, .int 0), (2, .int 0), (0, .ref (uL 0)), (1, .int a1)]) hx hb dX5_coinsToGo_3 rfl hl (by decide) rfl (fun ls hl => ?_)
  exact b4 fuelN _ _ _ _ _ _ hf (lv_sub hl [2, 3, 1, 0] rfl) hP hD hS
def FL_mostPressing_53 (ag8 : MS → Int32 → Int32 → Int32 → Int32 → Option Int32) (σL : MS) (l1 : Int32) (l2 : Int32) (l3 : Int32) (l4 : Int32) : Option Int32 :=
  nm (l4 + 1) fun (x7 : Int32) => ag8 σL l1 l2 l3 x7
def FL_mostPressing_8 : Nat → MS → Int32 → Int32 → Int32 → Int32 → Option Int32
  | 0, _, _, _, _, _ => none
  | n + 1, σL, l1, l2, l3, l4 => if (σL.1 7) ≤ l4 then (some (l2)) else (Option.bind (FL_slackAtHolder σL l4) fun (r2 : Int32) => if ((l1 >>> (l4 &&& 31)) &&& 1) = 0 then (if r2 < 0 then (FL_mostPressing_53 (FL_mostPressing_8 n) σL l1 l2 l3 l4) else (if l3 ≤ r2 then (FL_mostPressing_53 (FL_mostPressing_8 n) σL l1 l2 l3 l4) else (nm (1 <<< (l4 &&& 31)) fun (x6 : Int32) => FL_mostPressing_53 (FL_mostPressing_8 n) σL l1 x6 r2 l4))) else (FL_mostPressing_53 (FL_mostPressing_8 n) σL l1 l2 l3 l4))
def FL_mostPressing (σL : MS) (a1 : Int32) : Option Int32 :=
  FL_mostPressing_8 fuelN σL a1 0 1000000 0
set_option maxHeartbeats 4000000 in
set_option maxRecDepth 100000 in
theorem kL_mostPressing (l : Launch) (D : va_G) (uL : Nat → Nat) (cI cB cR cM cJ : ClassId) (t : Nat → Nat) (σL : MS) (a1 : Int32) (r : Int32) (hf : FL_mostPressing σL a1 = some (r)) : KZ l D (ctys cI cB cR cM cJ) t yX5_mostPressing wsX5_mostPressing 4 88 [.ref (uL 0), .int a1] (xL uL cI cB cR cM cJ σL) (some (.int r)) (xL uL cI cB cR cM cJ σL) := by
  refine KZ.ofI (own := RX5) (cc := cX5_mostPressing) (maxL := 6) (by decide) rfl rfl (Nat.le_of_ble_eq_true rfl) ?_
  intro p e s m args below meth c R Q A ls S hRf hRl hK hA hP hD hS hl hZ hret
  obtain ⟨hx, hb, hml, hown, hts⟩ := id S
  have c38 := hts (.constant RX5 38 (1000000)) (by decide +kernel)
  have f35 := hts (.fieldLink RX5 35 "PenniesAway$Realm" "coins" "I") (by decide +kernel)
  have hinX5 : ∀ w ∈ wsX50, w ∈ wsX5_mostPressing := fun w hw => List.mem_cons_of_mem _ (List.mem_append_right _ hw)
  have hl : lv_has ls 6 [(0, .ref (uL 0)), (1, .int a1)] := hl
  have hre : ∀ (x : Int32) (pc : Nat) (ls : Array Slot) (H : Heap) (locs : List Loc), (some (x) : Option Int32) = some (r) → va_P D vwCl (xL uL cI cB cR cM cJ σL) H → va_D A (xL uL cI cB cR cM cJ σL) → va_S A s.heap H locs → decode cX5_mostPressing pc = .ok (.ireturn, 1) → W p l e R s m args below meth c H locs 0 0 Q (F0 m pc ls [.int x]) := by intro x pc ls H locs he; cases he; exact hret pc ls H locs
  have b53 : ∀ (ag8 : MS → Int32 → Int32 → Int32 → Int32 → Option Int32) (hag8 : ∀ (l1 : Int32) (l2 : Int32) (l3 : Int32) (l4 : Int32) (ls : Array Slot) (H : Heap) (locs : List Loc), ag8 σL l1 l2 l3 l4 = some (r) → lv_has ls 6 [(0, .ref (uL 0)), (1, .int l1), (2, .int l2), (3, .int l3), (4, .int l4)] → va_P D vwCl (xL uL cI cB cR cM cJ σL) H → va_D A (xL uL cI cB cR cM cJ σL) → va_S A s.heap H locs → W p l e R s m args below meth c H locs 0 0 Q (F0 m 8 ls [])), ∀ (l1 : Int32) (l2 : Int32) (l3 : Int32) (l4 : Int32) (ls : Array Slot) (H : Heap) (locs : List Loc), FL_mostPressing_53 ag8 σL l1 l2 l3 l4 = some (r) → lv_has ls 6 [(0, .ref (uL 0)), (1, .int l1), (2, .int l2), (3, .int l3), (4, .int l4)] → va_P D vwCl (xL uL cI cB cR cM cJ σL) H → va_D A (xL uL cI cB cR cM cJ σL) → va_S A s.heap H locs → W p l e R s m args below meth c H locs 0 0 Q (F0 m 53 ls []) := by
    intro ag8 hag8 l1 l2 l3 l4 ls H locs hf hl hP hD hS
    unfold FL_mostPressing_53 at hf
    obtain ⟨x7, ex7, hf⟩ := nm_some hf
    refine lv_iinc (v := x7) (lv' := [(4, .int x7), (0, .ref (uL 0)), (1, .int l1), (2, .int l2), (3, .int l3)]) hx hb dX5_mostPressing_53 hl (k := 4) rfl (by rw [ex7]; rfl) (by decide) rfl (fun ls hl => ?_)
    refine lv_goto (tgt := 8) hx hb dX5_mostPressing_56 (by decide) ?_
    exact hag8 _ _ _ _ _ _ _ hf (lv_sub hl [1, 2, 3, 4, 0] rfl) hP hD hS
  have b8 : ∀ (n : Nat), ∀ (l1 : Int32) (l2 : Int32) (l3 : Int32) (l4 : Int32) (ls : Array Slot) (H : Heap) (locs : List Loc), FL_mostPressing_8 n σL l1 l2 l3 l4 = some (r) → lv_has ls 6 [(0, .ref (uL 0)), (1, .int l1), (2, .int l2), (3, .int l3), (4, .int l4)] → va_P D vwCl (xL uL cI cB cR cM cJ σL) H → va_D A (xL uL cI cB cR cM cJ σL) → va_S A s.heap H locs → W p l e R s m args below meth c H locs 0 0 Q (F0 m 8 ls []) := by
    intro n
    induction n with
    | zero => intro l1 l2 l3 l4 ls H locs hf; exact absurd hf (by simp [FL_mostPressing_8])
    | succ n ih =>
      intro l1 l2 l3 l4 ls H locs hf hl hP hD hS
      rw [FL_mostPressing_8] at hf
      refine lv_iload hx hb dX5_mostPressing_8 (lv_at hl 4 rfl) ?_
      refine lv_aload_n hx hb dX5_mostPressing_10 rfl (lv_at hl 0 rfl) ?_
      refine Lg_7 S hinX5 hK hP 0 rfl f35 dX5_mostPressing_11 ?_
      refine lv_icmp_ge (tgt := 59) hx hb dX5_mostPressing_14 (by decide) (fun c1 => ?_) (fun c1 => ?_)
      · have hf := (if_pos c1).symm.trans hf
        refine lv_iload_n hx hb dX5_mostPressing_59 rfl (lv_at hl 2 rfl) ?_
        exact hre _ _ _ _ _ hf hP hD hS dX5_mostPressing_60
      · have hf := (if_neg c1).symm.trans hf
        refine lv_aload_n hx hb dX5_mostPressing_17 rfl (lv_at hl 0 rfl) ?_
        refine lv_iload hx hb dX5_mostPressing_18 (lv_at hl 4 rfl) ?_
        obtain ⟨r2, hr2, hf⟩ := bi_some hf
        refine kz_v (ci := 4) (q0 := 0) (n := 1) S hRf hRl hK hA hZ hP hD hS hl [0, 1, 2, 3, 4] [.int l4] [] (kL_slackAtHolder l D uL cI cB cR cM cJ t σL l4 r2 hr2) rfl rfl rfl gX5_mostPressing_X5_slackAtHolder rfl (by decide +kernel) rfl ⟨by decide, by decide⟩ rfl rfl rfl rfl (Nat.le_of_ble_eq_true rfl) dX5_mostPressing_20 (fun H locs hP hD hS => ?_)
        replace hP : va_P D vwCl (xL uL cI cB cR cM cJ σL) H := hP
        replace hD : va_D A (xL uL cI cB cR cM cJ σL) := hD
        refine W.eq (g2 := F0 m 23 ls [.int r2]) rfl ?_
        refine lv_istore (lv' := [(5, .int r2), (0, .ref (uL 0)), (1, .int l1), (2, .int l2), (3, .int l3), (4, .int l4)]) hx hb dX5_mostPressing_23 hl (by decide) rfl (fun ls hl => ?_)
        refine lv_iload_n hx hb dX5_mostPressing_25 rfl (lv_at hl 2 rfl) ?_
        refine lv_iload hx hb dX5_mostPressing_26 (lv_at hl 5 rfl) ?_
        refine lv_ishr hx hb dX5_mostPressing_28 ?_
        refine lv_iconst (v := 1) hx hb dX5_mostPressing_29 (by decide) ?_
        refine lv_iand hx hb dX5_mostPressing_30 ?_
        refine lv_if_ne (tgt := 53) hx hb dX5_mostPressing_31 (by decide) (fun c3 => ?_) (fun c3 => ?_)
        · have hf := (if_neg c3).symm.trans hf
          exact b53 (FL_mostPressing_8 n) ih _ _ _ _ _ _ _ hf (lv_sub hl [1, 2, 3, 4, 5] rfl) hP hD hS
        · have hf := (if_pos c3).symm.trans hf
          refine lv_iload hx hb dX5_mostPressing_34 (lv_at hl 0 rfl) ?_
          refine lv_if_lt (tgt := 53) hx hb dX5_mostPressing_36 (by decide) (fun c4 => ?_) (fun c4 => ?_)
          · have hf := (if_pos c4).symm.trans hf
            exact b53 (FL_mostPressing_8 n) ih _ _ _ _ _ _ _ hf (lv_sub hl [1, 2, 3, 4, 5] rfl) hP hD hS
          · have hf := (if_neg c4).symm.trans hf
            refine lv_iload hx hb dX5_mostPressing_39 (lv_at hl 0 rfl) ?_
            refine lv_iload_n hx hb dX5_mostPressing_41 rfl (lv_at hl 4 rfl) ?_
            refine lv_icmp_ge (tgt := 53) hx hb dX5_mostPressing_42 (by decide) (fun c5 => ?_) (fun c5 => ?_)
            · have hf := (if_pos c5).symm.trans hf
              exact b53 (FL_mostPressing_8 n) ih _ _ _ _ _ _ _ hf (lv_sub hl [1, 2, 3, 4, 5] rfl) hP hD hS
            · have hf := (if_neg c5).symm.trans hf
              refine lv_iload hx hb dX5_mostPressing_45 (lv_at hl 0 rfl) ?_
              refine lv_istore_n (lv' := [(3, .int r2), (5, .int r2), (0, .ref (uL 0)), (1, .int l1), (2, .int l2), (4, .int l4)]) hx hb dX5_mostPressing_47 rfl hl (by decide) rfl (fun ls hl => ?_)
              refine lv_iconst (v := 1) hx hb dX5_mostPressing_48 (by decide) ?_
              refine lv_iload hx hb dX5_mostPressing_49 (lv_at hl 5 rfl) ?_
              refine lv_ishl hx hb dX5_mostPressing_51 ?_
              refine lv_topi (fun x6 ex6 => ?_)
              have hf := nm_at ex6 hf
              refine lv_istore_n (lv' := [(2, .int x6), (3, .int r2), (5, .int r2), (0, .ref (uL 0)), (1, .int l1), (4, .int l4)]) hx hb dX5_mostPressing_52 rfl hl (by decide) rfl (fun ls hl => ?_)
              exact b53 (FL_mostPressing_8 n) ih _ _ _ _ _ _ _ hf (lv_sub hl [3, 4, 0, 1, 5] rfl) hP hD hS
  unfold FL_mostPressing at hf
  refine lv_iconst (v := 0) hx hb dX5_mostPressing_0 (by decide) ?_
  refine lv_istore_n (lv' := [(2, .int 0), (0, .ref (uL 0)), (1, .int a1)]) hx hb dX5_mostPressing_1 rfl hl (by decide) rfl (fun ls hl => ?_)
  refine lv_ldc (v := 1000000) hx hb hown c38 dX5_mostPressing_2 ?_
  refine lv_istore_n (lv' := [(3, .int 1000000), (2, .int 0), (0, .ref (uL 0)), (1, .int a1)]) hx hb dX5_mostPressing_4 rfl hl (by decide) rfl (fun ls hl => ?_)
  refine lv_iconst (v := 0) hx hb dX5_mostPressing_5 (by decide) ?_
  refine lv_istore (lv' := [(4, .int 0), (3, .int 1000000), (2, .int 0), (0, .ref (uL 0)), (1, .int a1)]) hx hb dX5_mostPressing_6 hl (by decide) rfl (fun ls hl => ?_)
  exact b8 fuelN _ _ _ _ _ _ _ hf (lv_sub hl [3, 4, 2, 1, 0] rfl) hP hD hS
def FL_coinsForMessengers_4 : Nat → MS → Int32 → Int32 → Int32 → Option Int32
  | 0, _, _, _, _ => none
  | n + 1, σL, l1, l2, l3 => if l1 ≤ l3 then (some (l2)) else (Option.bind (FL_mostPressing σL l2) fun (r2 : Int32) => nm (l2 ||| r2) fun (x3 : Int32) => nm (l3 + 1) fun (x4 : Int32) => (FL_coinsForMessengers_4 n) σL l1 x3 x4)
def FL_coinsForMessengers (σL : MS) (a1 : Int32) : Option Int32 :=
  FL_coinsForMessengers_4 fuelN σL a1 0 0
set_option maxHeartbeats 4000000 in
set_option maxRecDepth 100000 in
theorem kL_coinsForMessengers (l : Launch) (D : va_G) (uL : Nat → Nat) (cI cB cR cM cJ : ClassId) (t : Nat → Nat) (σL : MS) (a1 : Int32) (r : Int32) (hf : FL_coinsForMessengers σL a1 = some (r)) : KZ l D (ctys cI cB cR cM cJ) t yX5_coinsForMessengers wsX5_coinsForMessengers 5 113 [.ref (uL 0), .int a1] (xL uL cI cB cR cM cJ σL) (some (.int r)) (xL uL cI cB cR cM cJ σL) := by
  refine KZ.ofI (own := RX5) (cc := cX5_coinsForMessengers) (maxL := 4) (by decide) rfl rfl (Nat.le_of_ble_eq_true rfl) ?_
  intro p e s m args below meth c R Q A ls S hRf hRl hK hA hP hD hS hl hZ hret
  obtain ⟨hx, hb, hml, hown, hts⟩ := id S
  have hl : lv_has ls 4 [(0, .ref (uL 0)), (1, .int a1)] := hl
  have hre : ∀ (x : Int32) (pc : Nat) (ls : Array Slot) (H : Heap) (locs : List Loc), (some (x) : Option Int32) = some (r) → va_P D vwCl (xL uL cI cB cR cM cJ σL) H → va_D A (xL uL cI cB cR cM cJ σL) → va_S A s.heap H locs → decode cX5_coinsForMessengers pc = .ok (.ireturn, 1) → W p l e R s m args below meth c H locs 0 0 Q (F0 m pc ls [.int x]) := by intro x pc ls H locs he; cases he; exact hret pc ls H locs
  have b4 : ∀ (n : Nat), ∀ (l1 : Int32) (l2 : Int32) (l3 : Int32) (ls : Array Slot) (H : Heap) (locs : List Loc), FL_coinsForMessengers_4 n σL l1 l2 l3 = some (r) → lv_has ls 4 [(0, .ref (uL 0)), (1, .int l1), (2, .int l2), (3, .int l3)] → va_P D vwCl (xL uL cI cB cR cM cJ σL) H → va_D A (xL uL cI cB cR cM cJ σL) → va_S A s.heap H locs → W p l e R s m args below meth c H locs 0 0 Q (F0 m 4 ls []) := by
    intro n
    induction n with
    | zero => intro l1 l2 l3 ls H locs hf; exact absurd hf (by simp [FL_coinsForMessengers_4])
    | succ n ih =>
      intro l1 l2 l3 ls H locs hf hl hP hD hS
      rw [FL_coinsForMessengers_4] at hf
      refine lv_iload_n hx hb dX5_coinsForMessengers_4 rfl (lv_at hl 3 rfl) ?_
      refine lv_iload_n hx hb dX5_coinsForMessengers_5 rfl (lv_at hl 1 rfl) ?_
      refine lv_icmp_ge (tgt := 23) hx hb dX5_coinsForMessengers_6 (by decide) (fun c1 => ?_) (fun c1 => ?_)
      · have hf := (if_pos c1).symm.trans hf
        refine lv_iload_n hx hb dX5_coinsForMessengers_23 rfl (lv_at hl 2 rfl) ?_
        exact hre _ _ _ _ _ hf hP hD hS dX5_coinsForMessengers_24
      · have hf := (if_neg c1).symm.trans hf
        refine lv_iload_n hx hb dX5_coinsForMessengers_9 rfl (lv_at hl 2 rfl) ?_
        refine lv_aload_n hx hb dX5_coinsForMessengers_10 rfl (lv_at hl 0 rfl) ?_
        refine lv_iload_n hx hb dX5_coinsForMessengers_11 rfl (lv_at hl 2 rfl) ?_
        obtain ⟨r2, hr2, hf⟩ := bi_some hf
        refine kz_v (ci := 4) (q0 := 0) (n := 1) S hRf hRl hK hA hZ hP hD hS hl [0, 1, 2, 3, 4] [.int l2] [.int l2] (kL_mostPressing l D uL cI cB cR cM cJ t σL l2 r2 hr2) rfl rfl rfl gX5_coinsForMessengers_X5_mostPressing rfl (by decide +kernel) rfl ⟨by decide, by decide⟩ rfl rfl rfl rfl (Nat.le_of_ble_eq_true rfl) dX5_coinsForMessengers_12 (fun H locs hP hD hS => ?_)
        replace hP : va_P D vwCl (xL uL cI cB cR cM cJ σL) H := hP
        replace hD : va_D A (xL uL cI cB cR cM cJ σL) := hD
        refine W.eq (g2 := F0 m 15 ls [.int r2, .int l2]) rfl ?_
        refine lv_ior hx hb dX5_coinsForMessengers_15 ?_
        refine lv_topi (fun x3 ex3 => ?_)
        have hf := nm_at ex3 hf
        refine lv_istore_n (lv' := [(2, .int x3), (0, .ref (uL 0)), (1, .int l1), (3, .int l3)]) hx hb dX5_coinsForMessengers_16 rfl hl (by decide) rfl (fun ls hl => ?_)
        obtain ⟨x4, ex4, hf⟩ := nm_some hf
        refine lv_iinc (v := x4) (lv' := [(3, .int x4), (2, .int x3), (0, .ref (uL 0)), (1, .int l1)]) hx hb dX5_coinsForMessengers_17 hl (k := 3) rfl (by rw [ex4]; rfl) (by decide) rfl (fun ls hl => ?_)
        refine lv_goto (tgt := 4) hx hb dX5_coinsForMessengers_20 (by decide) ?_
        exact ih _ _ _ _ _ _ hf (lv_sub hl [2, 3, 1, 0] rfl) hP hD hS
  unfold FL_coinsForMessengers at hf
  refine lv_iconst (v := 0) hx hb dX5_coinsForMessengers_0 (by decide) ?_
  refine lv_istore_n (lv' := [(2, .int 0), (0, .ref (uL 0)), (1, .int a1)]) hx hb dX5_coinsForMessengers_1 rfl hl (by decide) rfl (fun ls hl => ?_)
  refine lv_iconst (v := 0) hx hb dX5_coinsForMessengers_2 (by decide) ?_
  refine lv_istore_n (lv' := [(3, .int 0), (2, .int 0), (0, .ref (uL 0)), (1, .int a1)]) hx hb dX5_coinsForMessengers_3 rfl hl (by decide) rfl (fun ls hl => ?_)
  exact b4 fuelN _ _ _ _ _ _ hf (lv_sub hl [2, 3, 1, 0] rfl) hP hD hS
def FL_savedByTour_89 (ag5 : MS → Int32 → Int32 → Int32 → Int32 → Option Int32) (σL : MS) (l1 : Int32) (l2 : Int32) (l3 : Int32) (l4 : Int32) : Option Int32 :=
  nm (l4 + 1) fun (x15 : Int32) => ag5 σL l1 l2 l3 x15
def FL_savedByTour_43 (ag5 : MS → Int32 → Int32 → Int32 → Int32 → Option Int32) (σL : MS) (l1 : Int32) (l2 : Int32) (l3 : Int32) (l4 : Int32) (s0 : Int32) : Option Int32 :=
  if s0 = 0 then (FL_savedByTour_89 ag5 σL l1 l2 l3 l4) else (Option.bind (FL_forged σL l4) fun (r7 : Int32) => if r7 = 0 then (Option.bind (FL_dumb σL l4) fun (r9 : Int32) => if r9 = 0 then (Option.bind (FL_spanOf σL l4) fun (r11 : Int32) => Option.bind (FL_about σL l4 1) fun (r12 : Int32) => if r11 < (r12 + l2) then (FL_savedByTour_89 ag5 σL l1 l2 l3 l4) else (nm (l3 + 1) fun (x14 : Int32) => FL_savedByTour_89 ag5 σL l1 l2 x14 l4)) else (FL_savedByTour_89 ag5 σL l1 l2 l3 l4)) else (FL_savedByTour_89 ag5 σL l1 l2 l3 l4))
def FL_savedByTour_42 (ag5 : MS → Int32 → Int32 → Int32 → Int32 → Option Int32) (σL : MS) (l1 : Int32) (l2 : Int32) (l3 : Int32) (l4 : Int32) : Option Int32 :=
  FL_savedByTour_43 ag5 σL l1 l2 l3 l4 0
def FL_savedByTour_5 : Nat → MS → Int32 → Int32 → Int32 → Int32 → Option Int32
  | 0, _, _, _, _, _ => none
  | n + 1, σL, l1, l2, l3, l4 => if (σL.1 7) ≤ l4 then (some (l3)) else (Option.bind (FL_withHolder σL l4) fun (r2 : Int32) => if r2 = 0 then (FL_savedByTour_42 (FL_savedByTour_5 n) σL l1 l2 l3 l4) else (Option.bind (FL_about σL l4 0) fun (r4 : Int32) => if ((l1 >>> (r4 &&& 31)) &&& 1) = 1 then (FL_savedByTour_43 (FL_savedByTour_5 n) σL l1 l2 l3 l4 1) else (FL_savedByTour_42 (FL_savedByTour_5 n) σL l1 l2 l3 l4)))
def FL_savedByTour (σL : MS) (a1 : Int32) (a2 : Int32) : Option Int32 :=
  FL_savedByTour_5 fuelN σL a1 a2 0 0
set_option maxHeartbeats 4000000 in
set_option maxRecDepth 100000 in
theorem kL_savedByTour (l : Launch) (D : va_G) (uL : Nat → Nat) (cI cB cR cM cJ : ClassId) (t : Nat → Nat) (σL : MS) (a1 : Int32) (a2 : Int32) (r : Int32) (hf : FL_savedByTour σL a1 a2 = some (r)) : KZ l D (ctys cI cB cR cM cJ) t yX5_savedByTour wsX5_savedByTour 2 43 [.ref (uL 0), .int a1, .int a2] (xL uL cI cB cR cM cJ σL) (some (.int r)) (xL uL cI cB cR cM cJ σL) := by
  refine KZ.ofI (own := RX5) (cc := cX5_savedByTour) (maxL := 6) (by decide) rfl rfl (Nat.le_of_ble_eq_true rfl) ?_
  intro p e s m args below meth c R Q A ls S hRf hRl hK hA hP hD hS hl hZ hret
  obtain ⟨hx, hb, hml, hown, hts⟩ := id S
  have f35 := hts (.fieldLink RX5 35 "PenniesAway$Realm" "coins" "I") (by decide +kernel)
  have hinX5 : ∀ w ∈ wsX50, w ∈ wsX5_savedByTour := fun w hw => List.mem_cons_of_mem _ (List.mem_append_right _ hw)
  have hl : lv_has ls 6 [(0, .ref (uL 0)), (1, .int a1), (2, .int a2)] := hl
  have hre : ∀ (x : Int32) (pc : Nat) (ls : Array Slot) (H : Heap) (locs : List Loc), (some (x) : Option Int32) = some (r) → va_P D vwCl (xL uL cI cB cR cM cJ σL) H → va_D A (xL uL cI cB cR cM cJ σL) → va_S A s.heap H locs → decode cX5_savedByTour pc = .ok (.ireturn, 1) → W p l e R s m args below meth c H locs 0 0 Q (F0 m pc ls [.int x]) := by intro x pc ls H locs he; cases he; exact hret pc ls H locs
  have b89 : ∀ (ag5 : MS → Int32 → Int32 → Int32 → Int32 → Option Int32) (hag5 : ∀ (l1 : Int32) (l2 : Int32) (l3 : Int32) (l4 : Int32) (ls : Array Slot) (H : Heap) (locs : List Loc), ag5 σL l1 l2 l3 l4 = some (r) → lv_has ls 6 [(0, .ref (uL 0)), (1, .int l1), (2, .int l2), (3, .int l3), (4, .int l4)] → va_P D vwCl (xL uL cI cB cR cM cJ σL) H → va_D A (xL uL cI cB cR cM cJ σL) → va_S A s.heap H locs → W p l e R s m args below meth c H locs 0 0 Q (F0 m 5 ls [])), ∀ (l1 : Int32) (l2 : Int32) (l3 : Int32) (l4 : Int32) (ls : Array Slot) (H : Heap) (locs : List Loc), FL_savedByTour_89 ag5 σL l1 l2 l3 l4 = some (r) → lv_has ls 6 [(0, .ref (uL 0)), (1, .int l1), (2, .int l2), (3, .int l3), (4, .int l4)] → va_P D vwCl (xL uL cI cB cR cM cJ σL) H → va_D A (xL uL cI cB cR cM cJ σL) → va_S A s.heap H locs → W p l e R s m args below meth c H locs 0 0 Q (F0 m 89 ls []) := by
    intro ag5 hag5 l1 l2 l3 l4 ls H locs hf hl hP hD hS
    unfold FL_savedByTour_89 at hf
    obtain ⟨x15, ex15, hf⟩ := nm_some hf
    refine lv_iinc (v := x15) (lv' := [(4, .int x15), (0, .ref (uL 0)), (1, .int l1), (2, .int l2), (3, .int l3)]) hx hb dX5_savedByTour_89 hl (k := 4) rfl (by rw [ex15]; rfl) (by decide) rfl (fun ls hl => ?_)
    refine lv_goto (tgt := 5) hx hb dX5_savedByTour_92 (by decide) ?_
    exact hag5 _ _ _ _ _ _ _ hf (lv_sub hl [1, 2, 3, 4, 0] rfl) hP hD hS
  have b43 : ∀ (ag5 : MS → Int32 → Int32 → Int32 → Int32 → Option Int32) (hag5 : ∀ (l1 : Int32) (l2 : Int32) (l3 : Int32) (l4 : Int32) (ls : Array Slot) (H : Heap) (locs : List Loc), ag5 σL l1 l2 l3 l4 = some (r) → lv_has ls 6 [(0, .ref (uL 0)), (1, .int l1), (2, .int l2), (3, .int l3), (4, .int l4)] → va_P D vwCl (xL uL cI cB cR cM cJ σL) H → va_D A (xL uL cI cB cR cM cJ σL) → va_S A s.heap H locs → W p l e R s m args below meth c H locs 0 0 Q (F0 m 5 ls [])), ∀ (l1 : Int32) (l2 : Int32) (l3 : Int32) (l4 : Int32) (s0 : Int32) (ls : Array Slot) (H : Heap) (locs : List Loc), FL_savedByTour_43 ag5 σL l1 l2 l3 l4 s0 = some (r) → lv_has ls 6 [(0, .ref (uL 0)), (1, .int l1), (2, .int l2), (3, .int l3), (4, .int l4)] → va_P D vwCl (xL uL cI cB cR cM cJ σL) H → va_D A (xL uL cI cB cR cM cJ σL) → va_S A s.heap H locs → W p l e R s m args below meth c H locs 0 0 Q (F0 m 43 ls [.int s0]) := by
    intro ag5 hag5 l1 l2 l3 l4 s0 ls H locs hf hl hP hD hS
    unfold FL_savedByTour_43 at hf
    refine lv_istore (lv' := [(5, .int s0), (0, .ref (uL 0)), (1, .int l1), (2, .int l2), (3, .int l3), (4, .int l4)]) hx hb dX5_savedByTour_43 hl (by decide) rfl (fun ls hl => ?_)
    refine lv_iload hx hb dX5_savedByTour_45 (lv_at hl 0 rfl) ?_
    refine lv_if_eq (tgt := 89) hx hb dX5_savedByTour_47 (by decide) (fun c6 => ?_) (fun c6 => ?_)
    · have hf := (if_pos c6).symm.trans hf
      exact b89 ag5 hag5 _ _ _ _ _ _ _ hf (lv_sub hl [1, 2, 3, 4, 5] rfl) hP hD hS
    · have hf := (if_neg c6).symm.trans hf
      refine lv_aload_n hx hb dX5_savedByTour_50 rfl (lv_at hl 1 rfl) ?_
      refine lv_iload hx hb dX5_savedByTour_51 (lv_at hl 5 rfl) ?_
      obtain ⟨r7, hr7, hf⟩ := bi_some hf
      refine kz_v (ci := 4) (q0 := 0) (n := 1) S hRf hRl hK hA hZ hP hD hS hl [0, 1, 2, 3, 4] [.int l4] [] (kL_forged l D uL cI cB cR cM cJ t σL l4 r7 hr7) rfl rfl rfl gX5_savedByTour_X5_forged rfl (by decide +kernel) rfl ⟨by decide, by decide⟩ rfl rfl rfl rfl (Nat.le_of_ble_eq_true rfl) dX5_savedByTour_53 (fun H locs hP hD hS => ?_)
      replace hP : va_P D vwCl (xL uL cI cB cR cM cJ σL) H := hP
      replace hD : va_D A (xL uL cI cB cR cM cJ σL) := hD
      refine W.eq (g2 := F0 m 56 ls [.int r7]) rfl ?_
      refine lv_if_ne (tgt := 89) hx hb dX5_savedByTour_56 (by decide) (fun c8 => ?_) (fun c8 => ?_)
      · have hf := (if_neg c8).symm.trans hf
        exact b89 ag5 hag5 _ _ _ _ _ _ _ hf (lv_sub hl [1, 2, 3, 4, 5] rfl) hP hD hS
      · have hf := (if_pos c8).symm.trans hf
        refine lv_aload_n hx hb dX5_savedByTour_59 rfl (lv_at hl 1 rfl) ?_
        refine lv_iload hx hb dX5_savedByTour_60 (lv_at hl 5 rfl) ?_
        obtain ⟨r9, hr9, hf⟩ := bi_some hf
        refine kz_v (ci := 4) (q0 := 0) (n := 1) S hRf hRl hK hA hZ hP hD hS hl [0, 1, 2, 3, 4] [.int l4] [] (kL_dumb l D uL cI cB cR cM cJ t σL l4 r9 hr9) rfl rfl rfl gX5_savedByTour_X5_dumb rfl (by decide +kernel) rfl ⟨by decide, by decide⟩ rfl rfl rfl rfl (Nat.le_of_ble_eq_true rfl) dX5_savedByTour_62 (fun H locs hP hD hS => ?_)
        replace hP : va_P D vwCl (xL uL cI cB cR cM cJ σL) H := hP
        replace hD : va_D A (xL uL cI cB cR cM cJ σL) := hD
        refine W.eq (g2 := F0 m 65 ls [.int r9]) rfl ?_
        refine lv_if_ne (tgt := 89) hx hb dX5_savedByTour_65 (by decide) (fun c10 => ?_) (fun c10 => ?_)
        · have hf := (if_neg c10).symm.trans hf
          exact b89 ag5 hag5 _ _ _ _ _ _ _ hf (lv_sub hl [1, 2, 3, 4, 5] rfl) hP hD hS
        · have hf := (if_pos c10).symm.trans hf
          refine lv_aload_n hx hb dX5_savedByTour_68 rfl (lv_at hl 1 rfl) ?_
          refine lv_iload hx hb dX5_savedByTour_69 (lv_at hl 5 rfl) ?_
          obtain ⟨r11, hr11, hf⟩ := bi_some hf
          refine kz_v (ci := 4) (q0 := 0) (n := 1) S hRf hRl hK hA hZ hP hD hS hl [0, 1, 2, 3, 4] [.int l4] [] (kL_spanOf l D uL cI cB cR cM cJ t σL l4 r11 hr11) rfl rfl rfl gX5_savedByTour_X5_spanOf rfl (by decide +kernel) rfl ⟨by decide, by decide⟩ rfl rfl rfl rfl (Nat.le_of_ble_eq_true rfl) dX5_savedByTour_71 (fun H locs hP hD hS => ?_)
          replace hP : va_P D vwCl (xL uL cI cB cR cM cJ σL) H := hP
          replace hD : va_D A (xL uL cI cB cR cM cJ σL) := hD
          refine W.eq (g2 := F0 m 74 ls [.int r11]) rfl ?_
          refine lv_aload_n hx hb dX5_savedByTour_74 rfl (lv_at hl 1 rfl) ?_
          refine lv_iload hx hb dX5_savedByTour_75 (lv_at hl 5 rfl) ?_
          refine lv_iconst (v := 1) hx hb dX5_savedByTour_77 (by decide) ?_
          obtain ⟨r12, hr12, hf⟩ := bi_some hf
          refine kz_v (ci := 4) (q0 := 0) (n := 2) S hRf hRl hK hA hZ hP hD hS hl [0, 1, 2, 3, 4] [.int l4, .int 1] [.int r11] (kL_about l D uL cI cB cR cM cJ t σL l4 1 r12 hr12) rfl rfl rfl gX5_savedByTour_X5_about rfl (by decide +kernel) rfl ⟨by decide, by decide⟩ rfl rfl rfl rfl (Nat.le_of_ble_eq_true rfl) dX5_savedByTour_78 (fun H locs hP hD hS => ?_)
          replace hP : va_P D vwCl (xL uL cI cB cR cM cJ σL) H := hP
          replace hD : va_D A (xL uL cI cB cR cM cJ σL) := hD
          refine W.eq (g2 := F0 m 81 ls [.int r12, .int r11]) rfl ?_
          refine lv_iload_n hx hb dX5_savedByTour_81 rfl (lv_at hl 3 rfl) ?_
          refine lv_iadd hx hb dX5_savedByTour_82 ?_
          refine lv_icmp_lt (tgt := 89) hx hb dX5_savedByTour_83 (by decide) (fun c13 => ?_) (fun c13 => ?_)
          · have hf := (if_pos c13).symm.trans hf
            exact b89 ag5 hag5 _ _ _ _ _ _ _ hf (lv_sub hl [1, 2, 3, 4, 5] rfl) hP hD hS
          · have hf := (if_neg c13).symm.trans hf
            obtain ⟨x14, ex14, hf⟩ := nm_some hf
            refine lv_iinc (v := x14) (lv' := [(3, .int x14), (5, .int s0), (0, .ref (uL 0)), (1, .int l1), (2, .int l2), (4, .int l4)]) hx hb dX5_savedByTour_86 hl (k := 4) rfl (by rw [ex14]; rfl) (by decide) rfl (fun ls hl => ?_)
            exact b89 ag5 hag5 _ _ _ _ _ _ _ hf (lv_sub hl [2, 3, 4, 0, 5] rfl) hP hD hS
  have b42 : ∀ (ag5 : MS → Int32 → Int32 → Int32 → Int32 → Option Int32) (hag5 : ∀ (l1 : Int32) (l2 : Int32) (l3 : Int32) (l4 : Int32) (ls : Array Slot) (H : Heap) (locs : List Loc), ag5 σL l1 l2 l3 l4 = some (r) → lv_has ls 6 [(0, .ref (uL 0)), (1, .int l1), (2, .int l2), (3, .int l3), (4, .int l4)] → va_P D vwCl (xL uL cI cB cR cM cJ σL) H → va_D A (xL uL cI cB cR cM cJ σL) → va_S A s.heap H locs → W p l e R s m args below meth c H locs 0 0 Q (F0 m 5 ls [])), ∀ (l1 : Int32) (l2 : Int32) (l3 : Int32) (l4 : Int32) (ls : Array Slot) (H : Heap) (locs : List Loc), FL_savedByTour_42 ag5 σL l1 l2 l3 l4 = some (r) → lv_has ls 6 [(0, .ref (uL 0)), (1, .int l1), (2, .int l2), (3, .int l3), (4, .int l4)] → va_P D vwCl (xL uL cI cB cR cM cJ σL) H → va_D A (xL uL cI cB cR cM cJ σL) → va_S A s.heap H locs → W p l e R s m args below meth c H locs 0 0 Q (F0 m 42 ls []) := by
    intro ag5 hag5 l1 l2 l3 l4 ls H locs hf hl hP hD hS
    unfold FL_savedByTour_42 at hf
    refine lv_iconst (v := 0) hx hb dX5_savedByTour_42 (by decide) ?_
    exact b43 ag5 hag5 _ _ _ _ _ _ _ _ hf (lv_sub hl [0, 1, 2, 3, 4] rfl) hP hD hS
  have b5 : ∀ (n : Nat), ∀ (l1 : Int32) (l2 : Int32) (l3 : Int32) (l4 : Int32) (ls : Array Slot) (H : Heap) (locs : List Loc), FL_savedByTour_5 n σL l1 l2 l3 l4 = some (r) → lv_has ls 6 [(0, .ref (uL 0)), (1, .int l1), (2, .int l2), (3, .int l3), (4, .int l4)] → va_P D vwCl (xL uL cI cB cR cM cJ σL) H → va_D A (xL uL cI cB cR cM cJ σL) → va_S A s.heap H locs → W p l e R s m args below meth c H locs 0 0 Q (F0 m 5 ls []) := by
    intro n
    induction n with
    | zero => intro l1 l2 l3 l4 ls H locs hf; exact absurd hf (by simp [FL_savedByTour_5])
    | succ n ih =>
      intro l1 l2 l3 l4 ls H locs hf hl hP hD hS
      rw [FL_savedByTour_5] at hf
      refine lv_iload hx hb dX5_savedByTour_5 (lv_at hl 4 rfl) ?_
      refine lv_aload_n hx hb dX5_savedByTour_7 rfl (lv_at hl 0 rfl) ?_
      refine Lg_7 S hinX5 hK hP 0 rfl f35 dX5_savedByTour_8 ?_
      refine lv_icmp_ge (tgt := 95) hx hb dX5_savedByTour_11 (by decide) (fun c1 => ?_) (fun c1 => ?_)
      · have hf := (if_pos c1).symm.trans hf
        refine lv_iload_n hx hb dX5_savedByTour_95 rfl (lv_at hl 3 rfl) ?_
        exact hre _ _ _ _ _ hf hP hD hS dX5_savedByTour_96
      · have hf := (if_neg c1).symm.trans hf
        refine lv_aload_n hx hb dX5_savedByTour_14 rfl (lv_at hl 0 rfl) ?_
        refine lv_iload hx hb dX5_savedByTour_15 (lv_at hl 4 rfl) ?_
        obtain ⟨r2, hr2, hf⟩ := bi_some hf
        refine kz_v (ci := 4) (q0 := 0) (n := 1) S hRf hRl hK hA hZ hP hD hS hl [0, 1, 2, 3, 4] [.int l4] [] (kL_withHolder l D uL cI cB cR cM cJ t σL l4 r2 hr2) rfl rfl rfl gX5_savedByTour_X5_withHolder rfl (by decide +kernel) rfl ⟨by decide, by decide⟩ rfl rfl rfl rfl (Nat.le_of_ble_eq_true rfl) dX5_savedByTour_17 (fun H locs hP hD hS => ?_)
        replace hP : va_P D vwCl (xL uL cI cB cR cM cJ σL) H := hP
        replace hD : va_D A (xL uL cI cB cR cM cJ σL) := hD
        refine W.eq (g2 := F0 m 20 ls [.int r2]) rfl ?_
        refine lv_if_eq (tgt := 42) hx hb dX5_savedByTour_20 (by decide) (fun c3 => ?_) (fun c3 => ?_)
        · have hf := (if_pos c3).symm.trans hf
          exact b42 (FL_savedByTour_5 n) ih _ _ _ _ _ _ _ hf (lv_sub hl [0, 1, 2, 3, 4] rfl) hP hD hS
        · have hf := (if_neg c3).symm.trans hf
          refine lv_iload_n hx hb dX5_savedByTour_23 rfl (lv_at hl 1 rfl) ?_
          refine lv_aload_n hx hb dX5_savedByTour_24 rfl (lv_at hl 0 rfl) ?_
          refine lv_iload hx hb dX5_savedByTour_25 (lv_at hl 4 rfl) ?_
          refine lv_iconst (v := 0) hx hb dX5_savedByTour_27 (by decide) ?_
          obtain ⟨r4, hr4, hf⟩ := bi_some hf
          refine kz_v (ci := 4) (q0 := 0) (n := 2) S hRf hRl hK hA hZ hP hD hS hl [0, 1, 2, 3, 4] [.int l4, .int 0] [.int l1] (kL_about l D uL cI cB cR cM cJ t σL l4 0 r4 hr4) rfl rfl rfl gX5_savedByTour_X5_about rfl (by decide +kernel) rfl ⟨by decide, by decide⟩ rfl rfl rfl rfl (Nat.le_of_ble_eq_true rfl) dX5_savedByTour_28 (fun H locs hP hD hS => ?_)
          replace hP : va_P D vwCl (xL uL cI cB cR cM cJ σL) H := hP
          replace hD : va_D A (xL uL cI cB cR cM cJ σL) := hD
          refine W.eq (g2 := F0 m 31 ls [.int r4, .int l1]) rfl ?_
          refine lv_ishr hx hb dX5_savedByTour_31 ?_
          refine lv_iconst (v := 1) hx hb dX5_savedByTour_32 (by decide) ?_
          refine lv_iand hx hb dX5_savedByTour_33 ?_
          refine lv_iconst (v := 1) hx hb dX5_savedByTour_34 (by decide) ?_
          refine lv_icmp_ne (tgt := 42) hx hb dX5_savedByTour_35 (by decide) (fun c5 => ?_) (fun c5 => ?_)
          · have hf := (if_neg c5).symm.trans hf
            exact b42 (FL_savedByTour_5 n) ih _ _ _ _ _ _ _ hf (lv_sub hl [0, 1, 2, 3, 4] rfl) hP hD hS
          · have hf := (if_pos c5).symm.trans hf
            refine lv_iconst (v := 1) hx hb dX5_savedByTour_38 (by decide) ?_
            refine lv_goto (tgt := 43) hx hb dX5_savedByTour_39 (by decide) ?_
            exact b43 (FL_savedByTour_5 n) ih _ _ _ _ _ _ _ _ hf (lv_sub hl [0, 1, 2, 3, 4] rfl) hP hD hS
  unfold FL_savedByTour at hf
  refine lv_iconst (v := 0) hx hb dX5_savedByTour_0 (by decide) ?_
  refine lv_istore_n (lv' := [(3, .int 0), (0, .ref (uL 0)), (1, .int a1), (2, .int a2)]) hx hb dX5_savedByTour_1 rfl hl (by decide) rfl (fun ls hl => ?_)
  refine lv_iconst (v := 0) hx hb dX5_savedByTour_2 (by decide) ?_
  refine lv_istore (lv' := [(4, .int 0), (3, .int 0), (0, .ref (uL 0)), (1, .int a1), (2, .int a2)]) hx hb dX5_savedByTour_3 hl (by decide) rfl (fun ls hl => ?_)
  exact b5 fuelN _ _ _ _ _ _ _ hf (lv_sub hl [2, 3, 4, 1, 0] rfl) hP hD hS
def FL_lateWithMint_27 (ag4 : MS → Int32 → Int32 → Int32 → Option Int32) (σL : MS) (l1 : Int32) (l2 : Int32) (l3 : Int32) : Option Int32 :=
  nm (l3 + 1) fun (x6 : Int32) => ag4 σL l1 l2 x6
def FL_lateWithMint_4 : Nat → MS → Int32 → Int32 → Int32 → Option Int32
  | 0, _, _, _, _ => none
  | n + 1, σL, l1, l2, l3 => if (σL.1 7) ≤ l3 then (some (l2)) else (Option.bind (FL_slackWithMint σL l3 l1) fun (r2 : Int32) => Option.bind (FL_isLate r2) fun (r3 : Int32) => if r3 = 0 then (FL_lateWithMint_27 (FL_lateWithMint_4 n) σL l1 l2 l3) else (nm (l2 + 1) fun (x5 : Int32) => FL_lateWithMint_27 (FL_lateWithMint_4 n) σL l1 x5 l3))
def FL_lateWithMint (σL : MS) (a1 : Int32) : Option Int32 :=
  FL_lateWithMint_4 fuelN σL a1 0 0
set_option maxHeartbeats 4000000 in
set_option maxRecDepth 100000 in
theorem kL_lateWithMint (l : Launch) (D : va_G) (uL : Nat → Nat) (cI cB cR cM cJ : ClassId) (t : Nat → Nat) (σL : MS) (a1 : Int32) (r : Int32) (hf : FL_lateWithMint σL a1 = some (r)) : KZ l D (ctys cI cB cR cM cJ) t yX5_lateWithMint wsX5_lateWithMint 3 67 [.ref (uL 0), .int a1] (xL uL cI cB cR cM cJ σL) (some (.int r)) (xL uL cI cB cR cM cJ σL) := by
  refine KZ.ofI (own := RX5) (cc := cX5_lateWithMint) (maxL := 4) (by decide) rfl rfl (Nat.le_of_ble_eq_true rfl) ?_
  intro p e s m args below meth c R Q A ls S hRf hRl hK hA hP hD hS hl hZ hret
  obtain ⟨hx, hb, hml, hown, hts⟩ := id S
  have f35 := hts (.fieldLink RX5 35 "PenniesAway$Realm" "coins" "I") (by decide +kernel)
  have hinX5 : ∀ w ∈ wsX50, w ∈ wsX5_lateWithMint := fun w hw => List.mem_cons_of_mem _ (List.mem_append_right _ hw)
  have hl : lv_has ls 4 [(0, .ref (uL 0)), (1, .int a1)] := hl
  have hre : ∀ (x : Int32) (pc : Nat) (ls : Array Slot) (H : Heap) (locs : List Loc), (some (x) : Option Int32) = some (r) → va_P D vwCl (xL uL cI cB cR cM cJ σL) H → va_D A (xL uL cI cB cR cM cJ σL) → va_S A s.heap H locs → decode cX5_lateWithMint pc = .ok (.ireturn, 1) → W p l e R s m args below meth c H locs 0 0 Q (F0 m pc ls [.int x]) := by intro x pc ls H locs he; cases he; exact hret pc ls H locs
  have b27 : ∀ (ag4 : MS → Int32 → Int32 → Int32 → Option Int32) (hag4 : ∀ (l1 : Int32) (l2 : Int32) (l3 : Int32) (ls : Array Slot) (H : Heap) (locs : List Loc), ag4 σL l1 l2 l3 = some (r) → lv_has ls 4 [(0, .ref (uL 0)), (1, .int l1), (2, .int l2), (3, .int l3)] → va_P D vwCl (xL uL cI cB cR cM cJ σL) H → va_D A (xL uL cI cB cR cM cJ σL) → va_S A s.heap H locs → W p l e R s m args below meth c H locs 0 0 Q (F0 m 4 ls [])), ∀ (l1 : Int32) (l2 : Int32) (l3 : Int32) (ls : Array Slot) (H : Heap) (locs : List Loc), FL_lateWithMint_27 ag4 σL l1 l2 l3 = some (r) → lv_has ls 4 [(0, .ref (uL 0)), (1, .int l1), (2, .int l2), (3, .int l3)] → va_P D vwCl (xL uL cI cB cR cM cJ σL) H → va_D A (xL uL cI cB cR cM cJ σL) → va_S A s.heap H locs → W p l e R s m args below meth c H locs 0 0 Q (F0 m 27 ls []) := by
    intro ag4 hag4 l1 l2 l3 ls H locs hf hl hP hD hS
    unfold FL_lateWithMint_27 at hf
    obtain ⟨x6, ex6, hf⟩ := nm_some hf
    refine lv_iinc (v := x6) (lv' := [(3, .int x6), (0, .ref (uL 0)), (1, .int l1), (2, .int l2)]) hx hb dX5_lateWithMint_27 hl (k := 3) rfl (by rw [ex6]; rfl) (by decide) rfl (fun ls hl => ?_)
    refine lv_goto (tgt := 4) hx hb dX5_lateWithMint_30 (by decide) ?_
    exact hag4 _ _ _ _ _ _ hf (lv_sub hl [1, 2, 3, 0] rfl) hP hD hS
  have b4 : ∀ (n : Nat), ∀ (l1 : Int32) (l2 : Int32) (l3 : Int32) (ls : Array Slot) (H : Heap) (locs : List Loc), FL_lateWithMint_4 n σL l1 l2 l3 = some (r) → lv_has ls 4 [(0, .ref (uL 0)), (1, .int l1), (2, .int l2), (3, .int l3)] → va_P D vwCl (xL uL cI cB cR cM cJ σL) H → va_D A (xL uL cI cB cR cM cJ σL) → va_S A s.heap H locs → W p l e R s m args below meth c H locs 0 0 Q (F0 m 4 ls []) := by
    intro n
    induction n with
    | zero => intro l1 l2 l3 ls H locs hf; exact absurd hf (by simp [FL_lateWithMint_4])
    | succ n ih =>
      intro l1 l2 l3 ls H locs hf hl hP hD hS
      rw [FL_lateWithMint_4] at hf
      refine lv_iload_n hx hb dX5_lateWithMint_4 rfl (lv_at hl 3 rfl) ?_
      refine lv_aload_n hx hb dX5_lateWithMint_5 rfl (lv_at hl 0 rfl) ?_
      refine Lg_7 S hinX5 hK hP 0 rfl f35 dX5_lateWithMint_6 ?_
      refine lv_icmp_ge (tgt := 33) hx hb dX5_lateWithMint_9 (by decide) (fun c1 => ?_) (fun c1 => ?_)
      · have hf := (if_pos c1).symm.trans hf
        refine lv_iload_n hx hb dX5_lateWithMint_33 rfl (lv_at hl 2 rfl) ?_
        exact hre _ _ _ _ _ hf hP hD hS dX5_lateWithMint_34
      · have hf := (if_neg c1).symm.trans hf
        refine lv_aload_n hx hb dX5_lateWithMint_12 rfl (lv_at hl 0 rfl) ?_
        refine lv_iload_n hx hb dX5_lateWithMint_13 rfl (lv_at hl 3 rfl) ?_
        refine lv_iload_n hx hb dX5_lateWithMint_14 rfl (lv_at hl 1 rfl) ?_
        obtain ⟨r2, hr2, hf⟩ := bi_some hf
        refine kz_v (ci := 4) (q0 := 0) (n := 2) S hRf hRl hK hA hZ hP hD hS hl [0, 1, 2, 3, 4] [.int l3, .int l1] [] (kL_slackWithMint l D uL cI cB cR cM cJ t σL l3 l1 r2 hr2) rfl rfl rfl gX5_lateWithMint_X5_slackWithMint rfl (by decide +kernel) rfl ⟨by decide, by decide⟩ rfl rfl rfl rfl (Nat.le_of_ble_eq_true rfl) dX5_lateWithMint_15 (fun H locs hP hD hS => ?_)
        replace hP : va_P D vwCl (xL uL cI cB cR cM cJ σL) H := hP
        replace hD : va_D A (xL uL cI cB cR cM cJ σL) := hD
        refine W.eq (g2 := F0 m 18 ls [.int r2]) rfl ?_
        obtain ⟨r3, hr3, hf⟩ := bi_some hf
        refine kz_s (n := 1) S hRf hRl hK hA hZ hP hD hS hl [] [.int r2] [] (kL_isLate l D cI cB cR cM cJ t [] r2 r3 hr3) rfl rfl rfl gX5_lateWithMint_X5_isLate rfl (by decide +kernel) rfl ⟨by decide, by decide⟩ rfl (Nat.le_of_ble_eq_true rfl) dX5_lateWithMint_18 (fun H locs hP hD hS => ?_)
        replace hP : va_P D vwCl (xL uL cI cB cR cM cJ σL) H := hP
        replace hD : va_D A (xL uL cI cB cR cM cJ σL) := hD
        refine W.eq (g2 := F0 m 21 ls [.int r3]) rfl ?_
        refine lv_if_eq (tgt := 27) hx hb dX5_lateWithMint_21 (by decide) (fun c4 => ?_) (fun c4 => ?_)
        · have hf := (if_pos c4).symm.trans hf
          exact b27 (FL_lateWithMint_4 n) ih _ _ _ _ _ _ hf (lv_sub hl [0, 1, 2, 3] rfl) hP hD hS
        · have hf := (if_neg c4).symm.trans hf
          obtain ⟨x5, ex5, hf⟩ := nm_some hf
          refine lv_iinc (v := x5) (lv' := [(2, .int x5), (0, .ref (uL 0)), (1, .int l1), (3, .int l3)]) hx hb dX5_lateWithMint_24 hl (k := 2) rfl (by rw [ex5]; rfl) (by decide) rfl (fun ls hl => ?_)
          exact b27 (FL_lateWithMint_4 n) ih _ _ _ _ _ _ hf (lv_sub hl [1, 2, 0, 3] rfl) hP hD hS
  unfold FL_lateWithMint at hf
  refine lv_iconst (v := 0) hx hb dX5_lateWithMint_0 (by decide) ?_
  refine lv_istore_n (lv' := [(2, .int 0), (0, .ref (uL 0)), (1, .int a1)]) hx hb dX5_lateWithMint_1 rfl hl (by decide) rfl (fun ls hl => ?_)
  refine lv_iconst (v := 0) hx hb dX5_lateWithMint_2 (by decide) ?_
  refine lv_istore_n (lv' := [(3, .int 0), (2, .int 0), (0, .ref (uL 0)), (1, .int a1)]) hx hb dX5_lateWithMint_3 rfl hl (by decide) rfl (fun ls hl => ?_)
  exact b4 fuelN _ _ _ _ _ _ hf (lv_sub hl [2, 3, 1, 0] rfl) hP hD hS
def FL_bestSecondMint_25 (ag4 : MS → Int32 → Int32 → Option Int32) (σL : MS) (l1 : Int32) (l2 : Int32) : Option Int32 :=
  nm (l2 + 1) fun (x5 : Int32) => ag4 σL l1 x5
def FL_bestSecondMint_4 : Nat → MS → Int32 → Int32 → Option Int32
  | 0, _, _, _ => none
  | n + 1, σL, l1, l2 => if 8 ≤ l2 then (some (l1)) else (Option.bind (FL_lateWithMint σL l2) fun (r2 : Int32) => Option.bind (FL_lateWithMint σL l1) fun (r3 : Int32) => if r3 ≤ r2 then (FL_bestSecondMint_25 (FL_bestSecondMint_4 n) σL l1 l2) else (FL_bestSecondMint_25 (FL_bestSecondMint_4 n) σL l2 l2))
def FL_bestSecondMint (σL : MS) : Option Int32 :=
  FL_bestSecondMint_4 fuelN σL 1 2
set_option maxHeartbeats 4000000 in
set_option maxRecDepth 100000 in
theorem kL_bestSecondMint (l : Launch) (D : va_G) (uL : Nat → Nat) (cI cB cR cM cJ : ClassId) (t : Nat → Nat) (σL : MS) (r : Int32) (hf : FL_bestSecondMint σL = some (r)) : KZ l D (ctys cI cB cR cM cJ) t yX5_bestSecondMint wsX5_bestSecondMint 4 90 [.ref (uL 0)] (xL uL cI cB cR cM cJ σL) (some (.int r)) (xL uL cI cB cR cM cJ σL) := by
  refine KZ.ofI (own := RX5) (cc := cX5_bestSecondMint) (maxL := 3) (by decide) rfl rfl (Nat.le_of_ble_eq_true rfl) ?_
  intro p e s m args below meth c R Q A ls S hRf hRl hK hA hP hD hS hl hZ hret
  obtain ⟨hx, hb, hml, hown, hts⟩ := id S
  have hl : lv_has ls 3 [(0, .ref (uL 0))] := hl
  have hre : ∀ (x : Int32) (pc : Nat) (ls : Array Slot) (H : Heap) (locs : List Loc), (some (x) : Option Int32) = some (r) → va_P D vwCl (xL uL cI cB cR cM cJ σL) H → va_D A (xL uL cI cB cR cM cJ σL) → va_S A s.heap H locs → decode cX5_bestSecondMint pc = .ok (.ireturn, 1) → W p l e R s m args below meth c H locs 0 0 Q (F0 m pc ls [.int x]) := by intro x pc ls H locs he; cases he; exact hret pc ls H locs
  have b25 : ∀ (ag4 : MS → Int32 → Int32 → Option Int32) (hag4 : ∀ (l1 : Int32) (l2 : Int32) (ls : Array Slot) (H : Heap) (locs : List Loc), ag4 σL l1 l2 = some (r) → lv_has ls 3 [(0, .ref (uL 0)), (1, .int l1), (2, .int l2)] → va_P D vwCl (xL uL cI cB cR cM cJ σL) H → va_D A (xL uL cI cB cR cM cJ σL) → va_S A s.heap H locs → W p l e R s m args below meth c H locs 0 0 Q (F0 m 4 ls [])), ∀ (l1 : Int32) (l2 : Int32) (ls : Array Slot) (H : Heap) (locs : List Loc), FL_bestSecondMint_25 ag4 σL l1 l2 = some (r) → lv_has ls 3 [(0, .ref (uL 0)), (1, .int l1), (2, .int l2)] → va_P D vwCl (xL uL cI cB cR cM cJ σL) H → va_D A (xL uL cI cB cR cM cJ σL) → va_S A s.heap H locs → W p l e R s m args below meth c H locs 0 0 Q (F0 m 25 ls []) := by
    intro ag4 hag4 l1 l2 ls H locs hf hl hP hD hS
    unfold FL_bestSecondMint_25 at hf
    obtain ⟨x5, ex5, hf⟩ := nm_some hf
    refine lv_iinc (v := x5) (lv' := [(2, .int x5), (0, .ref (uL 0)), (1, .int l1)]) hx hb dX5_bestSecondMint_25 hl (k := 2) rfl (by rw [ex5]; rfl) (by decide) rfl (fun ls hl => ?_)
    refine lv_goto (tgt := 4) hx hb dX5_bestSecondMint_28 (by decide) ?_
    exact hag4 _ _ _ _ _ hf (lv_sub hl [1, 2, 0] rfl) hP hD hS
  have b4 : ∀ (n : Nat), ∀ (l1 : Int32) (l2 : Int32) (ls : Array Slot) (H : Heap) (locs : List Loc), FL_bestSecondMint_4 n σL l1 l2 = some (r) → lv_has ls 3 [(0, .ref (uL 0)), (1, .int l1), (2, .int l2)] → va_P D vwCl (xL uL cI cB cR cM cJ σL) H → va_D A (xL uL cI cB cR cM cJ σL) → va_S A s.heap H locs → W p l e R s m args below meth c H locs 0 0 Q (F0 m 4 ls []) := by
    intro n
    induction n with
    | zero => intro l1 l2 ls H locs hf; exact absurd hf (by simp [FL_bestSecondMint_4])
    | succ n ih =>
      intro l1 l2 ls H locs hf hl hP hD hS
      rw [FL_bestSecondMint_4] at hf
      refine lv_iload_n hx hb dX5_bestSecondMint_4 rfl (lv_at hl 2 rfl) ?_
      refine lv_bipush (v := 8) hx hb dX5_bestSecondMint_5 (by decide) ?_
      refine lv_icmp_ge (tgt := 31) hx hb dX5_bestSecondMint_7 (by decide) (fun c1 => ?_) (fun c1 => ?_)
      · have hf := (if_pos c1).symm.trans hf
        refine lv_iload_n hx hb dX5_bestSecondMint_31 rfl (lv_at hl 1 rfl) ?_
        exact hre _ _ _ _ _ hf hP hD hS dX5_bestSecondMint_32
      · have hf := (if_neg c1).symm.trans hf
        refine lv_aload_n hx hb dX5_bestSecondMint_10 rfl (lv_at hl 0 rfl) ?_
        refine lv_iload_n hx hb dX5_bestSecondMint_11 rfl (lv_at hl 2 rfl) ?_
        obtain ⟨r2, hr2, hf⟩ := bi_some hf
        refine kz_v (ci := 4) (q0 := 0) (n := 1) S hRf hRl hK hA hZ hP hD hS hl [0, 1, 2, 3, 4] [.int l2] [] (kL_lateWithMint l D uL cI cB cR cM cJ t σL l2 r2 hr2) rfl rfl rfl gX5_bestSecondMint_X5_lateWithMint rfl (by decide +kernel) rfl ⟨by decide, by decide⟩ rfl rfl rfl rfl (Nat.le_of_ble_eq_true rfl) dX5_bestSecondMint_12 (fun H locs hP hD hS => ?_)
        replace hP : va_P D vwCl (xL uL cI cB cR cM cJ σL) H := hP
        replace hD : va_D A (xL uL cI cB cR cM cJ σL) := hD
        refine W.eq (g2 := F0 m 15 ls [.int r2]) rfl ?_
        refine lv_aload_n hx hb dX5_bestSecondMint_15 rfl (lv_at hl 0 rfl) ?_
        refine lv_iload_n hx hb dX5_bestSecondMint_16 rfl (lv_at hl 1 rfl) ?_
        obtain ⟨r3, hr3, hf⟩ := bi_some hf
        refine kz_v (ci := 4) (q0 := 0) (n := 1) S hRf hRl hK hA hZ hP hD hS hl [0, 1, 2, 3, 4] [.int l1] [.int r2] (kL_lateWithMint l D uL cI cB cR cM cJ t σL l1 r3 hr3) rfl rfl rfl gX5_bestSecondMint_X5_lateWithMint rfl (by decide +kernel) rfl ⟨by decide, by decide⟩ rfl rfl rfl rfl (Nat.le_of_ble_eq_true rfl) dX5_bestSecondMint_17 (fun H locs hP hD hS => ?_)
        replace hP : va_P D vwCl (xL uL cI cB cR cM cJ σL) H := hP
        replace hD : va_D A (xL uL cI cB cR cM cJ σL) := hD
        refine W.eq (g2 := F0 m 20 ls [.int r3, .int r2]) rfl ?_
        refine lv_icmp_ge (tgt := 25) hx hb dX5_bestSecondMint_20 (by decide) (fun c4 => ?_) (fun c4 => ?_)
        · have hf := (if_pos c4).symm.trans hf
          exact b25 (FL_bestSecondMint_4 n) ih _ _ _ _ _ hf (lv_sub hl [0, 1, 2] rfl) hP hD hS
        · have hf := (if_neg c4).symm.trans hf
          refine lv_iload_n hx hb dX5_bestSecondMint_23 rfl (lv_at hl 2 rfl) ?_
          refine lv_istore_n (lv' := [(1, .int l2), (0, .ref (uL 0)), (2, .int l2)]) hx hb dX5_bestSecondMint_24 rfl hl (by decide) rfl (fun ls hl => ?_)
          exact b25 (FL_bestSecondMint_4 n) ih _ _ _ _ _ hf (lv_sub hl [1, 0, 2] rfl) hP hD hS
  unfold FL_bestSecondMint at hf
  refine lv_iconst (v := 1) hx hb dX5_bestSecondMint_0 (by decide) ?_
  refine lv_istore_n (lv' := [(1, .int 1), (0, .ref (uL 0))]) hx hb dX5_bestSecondMint_1 rfl hl (by decide) rfl (fun ls hl => ?_)
  refine lv_iconst (v := 2) hx hb dX5_bestSecondMint_2 (by decide) ?_
  refine lv_istore_n (lv' := [(2, .int 2), (1, .int 1), (0, .ref (uL 0))]) hx hb dX5_bestSecondMint_3 rfl hl (by decide) rfl (fun ls hl => ?_)
  exact b4 fuelN _ _ _ _ _ hf (lv_sub hl [2, 1, 0] rfl) hP hD hS
def FL_soundsAfter_38 (σL : MS) : Option Int32 :=
  some (1)
def FL_soundsAfter (σL : MS) (a1 : Int32) (a2 : Int32) : Option Int32 :=
  Option.bind (FL_dumb σL a1) fun (r1 : Int32) => if r1 = 0 then (Option.bind (FL_forged σL a1) fun (r3 : Int32) => if r3 = 0 then (if a2 = 0 then (FL_soundsAfter_38 σL) else (Option.bind (FL_about σL a1 1) fun (r6 : Int32) => Option.bind (FL_spanOf σL a1) fun (r7 : Int32) => if r7 < (r6 + a2) then (some (0)) else (FL_soundsAfter_38 σL))) else (FL_soundsAfter_38 σL)) else (some (0))
set_option maxHeartbeats 4000000 in
set_option maxRecDepth 100000 in
theorem kL_soundsAfter (l : Launch) (D : va_G) (uL : Nat → Nat) (cI cB cR cM cJ : ClassId) (t : Nat → Nat) (σL : MS) (a1 : Int32) (a2 : Int32) (r : Int32) (hf : FL_soundsAfter σL a1 a2 = some (r)) : KZ l D (ctys cI cB cR cM cJ) t yX5_soundsAfter wsX5_soundsAfter 2 43 [.ref (uL 0), .int a1, .int a2] (xL uL cI cB cR cM cJ σL) (some (.int r)) (xL uL cI cB cR cM cJ σL) := by
  refine KZ.ofZ (own := RX5) (cc := cX5_soundsAfter) (maxL := 3) (by decide) rfl rfl (Nat.le_of_ble_eq_true rfl) ?_
  intro p e s m args below meth c R Q A ls S hRf hRl hK hA hP hD hS hl hZ hret
  obtain ⟨hx, hb, hml, hown, hts⟩ := id S
  have hl : lv_has ls 3 [(0, .ref (uL 0)), (1, .int a1), (2, .int a2)] := hl
  have hre : ∀ (x : Int32) (pc : Nat) (ls : Array Slot) (H : Heap) (locs : List Loc), (some (x) : Option Int32) = some (r) → va_P D vwCl (xL uL cI cB cR cM cJ σL) H → va_D A (xL uL cI cB cR cM cJ σL) → va_S A s.heap H locs → decode cX5_soundsAfter pc = .ok (.ireturn, 1) → narrow .boolean (.int x) = .int x → W p l e R s m args below meth c H locs 0 0 Q (F0 m pc ls [.int x]) := by intro x pc ls H locs he; cases he; exact hret pc ls H locs
  have b38 : ∀ (ls : Array Slot) (H : Heap) (locs : List Loc), FL_soundsAfter_38 σL = some (r) → lv_has ls 3 [] → va_P D vwCl (xL uL cI cB cR cM cJ σL) H → va_D A (xL uL cI cB cR cM cJ σL) → va_S A s.heap H locs → W p l e R s m args below meth c H locs 0 0 Q (F0 m 38 ls []) := by
    intro ls H locs hf hl hP hD hS
    unfold FL_soundsAfter_38 at hf
    refine lv_iconst (v := 1) hx hb dX5_soundsAfter_38 (by decide) ?_
    refine lv_goto (tgt := 43) hx hb dX5_soundsAfter_39 (by decide) ?_
    exact hre _ _ _ _ _ hf hP hD hS dX5_soundsAfter_43 rfl
  unfold FL_soundsAfter at hf
  refine lv_aload_n hx hb dX5_soundsAfter_0 rfl (lv_at hl 0 rfl) ?_
  refine lv_iload_n hx hb dX5_soundsAfter_1 rfl (lv_at hl 1 rfl) ?_
  obtain ⟨r1, hr1, hf⟩ := bi_some hf
  refine kz_v (ci := 4) (q0 := 0) (n := 1) S hRf hRl hK hA hZ hP hD hS hl [0, 1, 2, 3, 4] [.int a1] [] (kL_dumb l D uL cI cB cR cM cJ t σL a1 r1 hr1) rfl rfl rfl gX5_soundsAfter_X5_dumb rfl (by decide +kernel) rfl ⟨by decide, by decide⟩ rfl rfl rfl rfl (Nat.le_of_ble_eq_true rfl) dX5_soundsAfter_2 (fun H locs hP hD hS => ?_)
  replace hP : va_P D vwCl (xL uL cI cB cR cM cJ σL) H := hP
  replace hD : va_D A (xL uL cI cB cR cM cJ σL) := hD
  refine W.eq (g2 := F0 m 5 ls [.int r1]) rfl ?_
  refine lv_if_eq (tgt := 10) hx hb dX5_soundsAfter_5 (by decide) (fun c2 => ?_) (fun c2 => ?_)
  · have hf := (if_pos c2).symm.trans hf
    refine lv_aload_n hx hb dX5_soundsAfter_10 rfl (lv_at hl 0 rfl) ?_
    refine lv_iload_n hx hb dX5_soundsAfter_11 rfl (lv_at hl 1 rfl) ?_
    obtain ⟨r3, hr3, hf⟩ := bi_some hf
    refine kz_v (ci := 4) (q0 := 0) (n := 1) S hRf hRl hK hA hZ hP hD hS hl [0, 1, 2, 3, 4] [.int a1] [] (kL_forged l D uL cI cB cR cM cJ t σL a1 r3 hr3) rfl rfl rfl gX5_soundsAfter_X5_forged rfl (by decide +kernel) rfl ⟨by decide, by decide⟩ rfl rfl rfl rfl (Nat.le_of_ble_eq_true rfl) dX5_soundsAfter_12 (fun H locs hP hD hS => ?_)
    replace hP : va_P D vwCl (xL uL cI cB cR cM cJ σL) H := hP
    replace hD : va_D A (xL uL cI cB cR cM cJ σL) := hD
    refine W.eq (g2 := F0 m 15 ls [.int r3]) rfl ?_
    refine lv_if_ne (tgt := 38) hx hb dX5_soundsAfter_15 (by decide) (fun c4 => ?_) (fun c4 => ?_)
    · have hf := (if_neg c4).symm.trans hf
      exact b38 _ _ _ hf (lv_sub hl [] rfl) hP hD hS
    · have hf := (if_pos c4).symm.trans hf
      refine lv_iload_n hx hb dX5_soundsAfter_18 rfl (lv_at hl 2 rfl) ?_
      refine lv_if_eq (tgt := 38) hx hb dX5_soundsAfter_19 (by decide) (fun c5 => ?_) (fun c5 => ?_)
      · have hf := (if_pos c5).symm.trans hf
        exact b38 _ _ _ hf (lv_sub hl [] rfl) hP hD hS
      · have hf := (if_neg c5).symm.trans hf
        refine lv_aload_n hx hb dX5_soundsAfter_22 rfl (lv_at hl 0 rfl) ?_
        refine lv_iload_n hx hb dX5_soundsAfter_23 rfl (lv_at hl 1 rfl) ?_
        refine lv_iconst (v := 1) hx hb dX5_soundsAfter_24 (by decide) ?_
        obtain ⟨r6, hr6, hf⟩ := bi_some hf
        refine kz_v (ci := 4) (q0 := 0) (n := 2) S hRf hRl hK hA hZ hP hD hS hl [0, 1, 2, 3, 4] [.int a1, .int 1] [] (kL_about l D uL cI cB cR cM cJ t σL a1 1 r6 hr6) rfl rfl rfl gX5_soundsAfter_X5_about rfl (by decide +kernel) rfl ⟨by decide, by decide⟩ rfl rfl rfl rfl (Nat.le_of_ble_eq_true rfl) dX5_soundsAfter_25 (fun H locs hP hD hS => ?_)
        replace hP : va_P D vwCl (xL uL cI cB cR cM cJ σL) H := hP
        replace hD : va_D A (xL uL cI cB cR cM cJ σL) := hD
        refine W.eq (g2 := F0 m 28 ls [.int r6]) rfl ?_
        refine lv_iload_n hx hb dX5_soundsAfter_28 rfl (lv_at hl 2 rfl) ?_
        refine lv_iadd hx hb dX5_soundsAfter_29 ?_
        refine lv_aload_n hx hb dX5_soundsAfter_30 rfl (lv_at hl 0 rfl) ?_
        refine lv_iload_n hx hb dX5_soundsAfter_31 rfl (lv_at hl 1 rfl) ?_
        obtain ⟨r7, hr7, hf⟩ := bi_some hf
        refine kz_v (ci := 4) (q0 := 0) (n := 1) S hRf hRl hK hA hZ hP hD hS hl [0, 1, 2, 3, 4] [.int a1] [.int (r6 + a2)] (kL_spanOf l D uL cI cB cR cM cJ t σL a1 r7 hr7) rfl rfl rfl gX5_soundsAfter_X5_spanOf rfl (by decide +kernel) rfl ⟨by decide, by decide⟩ rfl rfl rfl rfl (Nat.le_of_ble_eq_true rfl) dX5_soundsAfter_32 (fun H locs hP hD hS => ?_)
        replace hP : va_P D vwCl (xL uL cI cB cR cM cJ σL) H := hP
        replace hD : va_D A (xL uL cI cB cR cM cJ σL) := hD
        refine W.eq (g2 := F0 m 35 ls [.int r7, .int (r6 + a2)]) rfl ?_
        refine lv_icmp_gt (tgt := 42) hx hb dX5_soundsAfter_35 (by decide) (fun c8 => ?_) (fun c8 => ?_)
        · have hf := (if_pos c8).symm.trans hf
          refine lv_iconst (v := 0) hx hb dX5_soundsAfter_42 (by decide) ?_
          exact hre _ _ _ _ _ hf hP hD hS dX5_soundsAfter_43 rfl
        · have hf := (if_neg c8).symm.trans hf
          exact b38 _ _ _ hf (lv_sub hl [] rfl) hP hD hS
  · have hf := (if_neg c2).symm.trans hf
    refine lv_iconst (v := 0) hx hb dX5_soundsAfter_8 (by decide) ?_
    exact hre _ _ _ _ _ hf hP hD hS dX5_soundsAfter_9 rfl
def FL_soundingIn_46 (ag5 : MS → Int32 → Int32 → Int32 → Int32 → Option Int32) (σL : MS) (l1 : Int32) (l2 : Int32) (l3 : Int32) (l4 : Int32) : Option Int32 :=
  nm (l4 + 1) fun (x9 : Int32) => ag5 σL l1 l2 l3 x9
def FL_soundingIn_5 : Nat → MS → Int32 → Int32 → Int32 → Int32 → Option Int32
  | 0, _, _, _, _, _ => none
  | n + 1, σL, l1, l2, l3, l4 => if (σL.1 7) ≤ l4 then (some (l3)) else (Option.bind (FL_withHolder σL l4) fun (r2 : Int32) => if r2 = 0 then (FL_soundingIn_46 (FL_soundingIn_5 n) σL l1 l2 l3 l4) else (Option.bind (FL_townOf σL l4) fun (r4 : Int32) => if r4 = l1 then (Option.bind (FL_soundsAfter σL l4 l2) fun (r6 : Int32) => if r6 = 0 then (FL_soundingIn_46 (FL_soundingIn_5 n) σL l1 l2 l3 l4) else (nm (l3 + 1) fun (x8 : Int32) => FL_soundingIn_46 (FL_soundingIn_5 n) σL l1 l2 x8 l4)) else (FL_soundingIn_46 (FL_soundingIn_5 n) σL l1 l2 l3 l4)))
def FL_soundingIn (σL : MS) (a1 : Int32) (a2 : Int32) : Option Int32 :=
  FL_soundingIn_5 fuelN σL a1 a2 0 0
set_option maxHeartbeats 4000000 in
set_option maxRecDepth 100000 in
theorem kL_soundingIn (l : Launch) (D : va_G) (uL : Nat → Nat) (cI cB cR cM cJ : ClassId) (t : Nat → Nat) (σL : MS) (a1 : Int32) (a2 : Int32) (r : Int32) (hf : FL_soundingIn σL a1 a2 = some (r)) : KZ l D (ctys cI cB cR cM cJ) t yX5_soundingIn wsX5_soundingIn 3 65 [.ref (uL 0), .int a1, .int a2] (xL uL cI cB cR cM cJ σL) (some (.int r)) (xL uL cI cB cR cM cJ σL) := by
  refine KZ.ofI (own := RX5) (cc := cX5_soundingIn) (maxL := 5) (by decide) rfl rfl (Nat.le_of_ble_eq_true rfl) ?_
  intro p e s m args below meth c R Q A ls S hRf hRl hK hA hP hD hS hl hZ hret
  obtain ⟨hx, hb, hml, hown, hts⟩ := id S
  have f35 := hts (.fieldLink RX5 35 "PenniesAway$Realm" "coins" "I") (by decide +kernel)
  have hinX5 : ∀ w ∈ wsX50, w ∈ wsX5_soundingIn := fun w hw => List.mem_cons_of_mem _ (List.mem_append_right _ hw)
  have hl : lv_has ls 5 [(0, .ref (uL 0)), (1, .int a1), (2, .int a2)] := hl
  have hre : ∀ (x : Int32) (pc : Nat) (ls : Array Slot) (H : Heap) (locs : List Loc), (some (x) : Option Int32) = some (r) → va_P D vwCl (xL uL cI cB cR cM cJ σL) H → va_D A (xL uL cI cB cR cM cJ σL) → va_S A s.heap H locs → decode cX5_soundingIn pc = .ok (.ireturn, 1) → W p l e R s m args below meth c H locs 0 0 Q (F0 m pc ls [.int x]) := by intro x pc ls H locs he; cases he; exact hret pc ls H locs
  have b46 : ∀ (ag5 : MS → Int32 → Int32 → Int32 → Int32 → Option Int32) (hag5 : ∀ (l1 : Int32) (l2 : Int32) (l3 : Int32) (l4 : Int32) (ls : Array Slot) (H : Heap) (locs : List Loc), ag5 σL l1 l2 l3 l4 = some (r) → lv_has ls 5 [(0, .ref (uL 0)), (1, .int l1), (2, .int l2), (3, .int l3), (4, .int l4)] → va_P D vwCl (xL uL cI cB cR cM cJ σL) H → va_D A (xL uL cI cB cR cM cJ σL) → va_S A s.heap H locs → W p l e R s m args below meth c H locs 0 0 Q (F0 m 5 ls [])), ∀ (l1 : Int32) (l2 : Int32) (l3 : Int32) (l4 : Int32) (ls : Array Slot) (H : Heap) (locs : List Loc), FL_soundingIn_46 ag5 σL l1 l2 l3 l4 = some (r) → lv_has ls 5 [(0, .ref (uL 0)), (1, .int l1), (2, .int l2), (3, .int l3), (4, .int l4)] → va_P D vwCl (xL uL cI cB cR cM cJ σL) H → va_D A (xL uL cI cB cR cM cJ σL) → va_S A s.heap H locs → W p l e R s m args below meth c H locs 0 0 Q (F0 m 46 ls []) := by
    intro ag5 hag5 l1 l2 l3 l4 ls H locs hf hl hP hD hS
    unfold FL_soundingIn_46 at hf
    obtain ⟨x9, ex9, hf⟩ := nm_some hf
    refine lv_iinc (v := x9) (lv' := [(4, .int x9), (0, .ref (uL 0)), (1, .int l1), (2, .int l2), (3, .int l3)]) hx hb dX5_soundingIn_46 hl (k := 4) rfl (by rw [ex9]; rfl) (by decide) rfl (fun ls hl => ?_)
    refine lv_goto (tgt := 5) hx hb dX5_soundingIn_49 (by decide) ?_
    exact hag5 _ _ _ _ _ _ _ hf (lv_sub hl [1, 2, 3, 4, 0] rfl) hP hD hS
  have b5 : ∀ (n : Nat), ∀ (l1 : Int32) (l2 : Int32) (l3 : Int32) (l4 : Int32) (ls : Array Slot) (H : Heap) (locs : List Loc), FL_soundingIn_5 n σL l1 l2 l3 l4 = some (r) → lv_has ls 5 [(0, .ref (uL 0)), (1, .int l1), (2, .int l2), (3, .int l3), (4, .int l4)] → va_P D vwCl (xL uL cI cB cR cM cJ σL) H → va_D A (xL uL cI cB cR cM cJ σL) → va_S A s.heap H locs → W p l e R s m args below meth c H locs 0 0 Q (F0 m 5 ls []) := by
    intro n
    induction n with
    | zero => intro l1 l2 l3 l4 ls H locs hf; exact absurd hf (by simp [FL_soundingIn_5])
    | succ n ih =>
      intro l1 l2 l3 l4 ls H locs hf hl hP hD hS
      rw [FL_soundingIn_5] at hf
      refine lv_iload hx hb dX5_soundingIn_5 (lv_at hl 4 rfl) ?_
      refine lv_aload_n hx hb dX5_soundingIn_7 rfl (lv_at hl 0 rfl) ?_
      refine Lg_7 S hinX5 hK hP 0 rfl f35 dX5_soundingIn_8 ?_
      refine lv_icmp_ge (tgt := 52) hx hb dX5_soundingIn_11 (by decide) (fun c1 => ?_) (fun c1 => ?_)
      · have hf := (if_pos c1).symm.trans hf
        refine lv_iload_n hx hb dX5_soundingIn_52 rfl (lv_at hl 3 rfl) ?_
        exact hre _ _ _ _ _ hf hP hD hS dX5_soundingIn_53
      · have hf := (if_neg c1).symm.trans hf
        refine lv_aload_n hx hb dX5_soundingIn_14 rfl (lv_at hl 0 rfl) ?_
        refine lv_iload hx hb dX5_soundingIn_15 (lv_at hl 4 rfl) ?_
        obtain ⟨r2, hr2, hf⟩ := bi_some hf
        refine kz_v (ci := 4) (q0 := 0) (n := 1) S hRf hRl hK hA hZ hP hD hS hl [0, 1, 2, 3, 4] [.int l4] [] (kL_withHolder l D uL cI cB cR cM cJ t σL l4 r2 hr2) rfl rfl rfl gX5_soundingIn_X5_withHolder rfl (by decide +kernel) rfl ⟨by decide, by decide⟩ rfl rfl rfl rfl (Nat.le_of_ble_eq_true rfl) dX5_soundingIn_17 (fun H locs hP hD hS => ?_)
        replace hP : va_P D vwCl (xL uL cI cB cR cM cJ σL) H := hP
        replace hD : va_D A (xL uL cI cB cR cM cJ σL) := hD
        refine W.eq (g2 := F0 m 20 ls [.int r2]) rfl ?_
        refine lv_if_eq (tgt := 46) hx hb dX5_soundingIn_20 (by decide) (fun c3 => ?_) (fun c3 => ?_)
        · have hf := (if_pos c3).symm.trans hf
          exact b46 (FL_soundingIn_5 n) ih _ _ _ _ _ _ _ hf (lv_sub hl [0, 1, 2, 3, 4] rfl) hP hD hS
        · have hf := (if_neg c3).symm.trans hf
          refine lv_aload_n hx hb dX5_soundingIn_23 rfl (lv_at hl 0 rfl) ?_
          refine lv_iload hx hb dX5_soundingIn_24 (lv_at hl 4 rfl) ?_
          obtain ⟨r4, hr4, hf⟩ := bi_some hf
          refine kz_v (ci := 4) (q0 := 0) (n := 1) S hRf hRl hK hA hZ hP hD hS hl [0, 1, 2, 3, 4] [.int l4] [] (kL_townOf l D uL cI cB cR cM cJ t σL l4 r4 hr4) rfl rfl rfl gX5_soundingIn_X5_townOf rfl (by decide +kernel) rfl ⟨by decide, by decide⟩ rfl rfl rfl rfl (Nat.le_of_ble_eq_true rfl) dX5_soundingIn_26 (fun H locs hP hD hS => ?_)
          replace hP : va_P D vwCl (xL uL cI cB cR cM cJ σL) H := hP
          replace hD : va_D A (xL uL cI cB cR cM cJ σL) := hD
          refine W.eq (g2 := F0 m 29 ls [.int r4]) rfl ?_
          refine lv_iload_n hx hb dX5_soundingIn_29 rfl (lv_at hl 1 rfl) ?_
          refine lv_icmp_ne (tgt := 46) hx hb dX5_soundingIn_30 (by decide) (fun c5 => ?_) (fun c5 => ?_)
          · have hf := (if_neg c5).symm.trans hf
            exact b46 (FL_soundingIn_5 n) ih _ _ _ _ _ _ _ hf (lv_sub hl [0, 1, 2, 3, 4] rfl) hP hD hS
          · have hf := (if_pos c5).symm.trans hf
            refine lv_aload_n hx hb dX5_soundingIn_33 rfl (lv_at hl 0 rfl) ?_
            refine lv_iload hx hb dX5_soundingIn_34 (lv_at hl 4 rfl) ?_
            refine lv_iload_n hx hb dX5_soundingIn_36 rfl (lv_at hl 2 rfl) ?_
            obtain ⟨r6, hr6, hf⟩ := bi_some hf
            refine kz_v (ci := 4) (q0 := 0) (n := 2) S hRf hRl hK hA hZ hP hD hS hl [0, 1, 2, 3, 4] [.int l4, .int l2] [] (kL_soundsAfter l D uL cI cB cR cM cJ t σL l4 l2 r6 hr6) rfl rfl rfl gX5_soundingIn_X5_soundsAfter rfl (by decide +kernel) rfl ⟨by decide, by decide⟩ rfl rfl rfl rfl (Nat.le_of_ble_eq_true rfl) dX5_soundingIn_37 (fun H locs hP hD hS => ?_)
            replace hP : va_P D vwCl (xL uL cI cB cR cM cJ σL) H := hP
            replace hD : va_D A (xL uL cI cB cR cM cJ σL) := hD
            refine W.eq (g2 := F0 m 40 ls [.int r6]) rfl ?_
            refine lv_if_eq (tgt := 46) hx hb dX5_soundingIn_40 (by decide) (fun c7 => ?_) (fun c7 => ?_)
            · have hf := (if_pos c7).symm.trans hf
              exact b46 (FL_soundingIn_5 n) ih _ _ _ _ _ _ _ hf (lv_sub hl [0, 1, 2, 3, 4] rfl) hP hD hS
            · have hf := (if_neg c7).symm.trans hf
              obtain ⟨x8, ex8, hf⟩ := nm_some hf
              refine lv_iinc (v := x8) (lv' := [(3, .int x8), (0, .ref (uL 0)), (1, .int l1), (2, .int l2), (4, .int l4)]) hx hb dX5_soundingIn_43 hl (k := 3) rfl (by rw [ex8]; rfl) (by decide) rfl (fun ls hl => ?_)
              exact b46 (FL_soundingIn_5 n) ih _ _ _ _ _ _ _ hf (lv_sub hl [1, 2, 3, 0, 4] rfl) hP hD hS
  unfold FL_soundingIn at hf
  refine lv_iconst (v := 0) hx hb dX5_soundingIn_0 (by decide) ?_
  refine lv_istore_n (lv' := [(3, .int 0), (0, .ref (uL 0)), (1, .int a1), (2, .int a2)]) hx hb dX5_soundingIn_1 rfl hl (by decide) rfl (fun ls hl => ?_)
  refine lv_iconst (v := 0) hx hb dX5_soundingIn_2 (by decide) ?_
  refine lv_istore (lv' := [(4, .int 0), (3, .int 0), (0, .ref (uL 0)), (1, .int a1), (2, .int a2)]) hx hb dX5_soundingIn_3 hl (by decide) rfl (fun ls hl => ?_)
  exact b5 fuelN _ _ _ _ _ _ _ hf (lv_sub hl [2, 3, 4, 1, 0] rfl) hP hD hS
def FC_comeHome_25 (σC : MS) (l1 : Int32) (l2 : Int32) : Option MS :=
  nm (setF σC 3 (l1 + l2)) fun (σ4 : MS) => gd (¬ (0 : Int32) < 0 ∧ ¬ (0 : Int32) < 0 ∧ ¬ (6 : Int32) < 0 ∧ Int32.toNatClampNeg 0 + Int32.toNatClampNeg 6 ≤ 6 ∧ Int32.toNatClampNeg 0 + Int32.toNatClampNeg 6 ≤ 6) (nm (setR σ4 0 (va_cpy (σ4.2 1) (σ4.2 0) (Int32.toNatClampNeg 0) (Int32.toNatClampNeg 0) (Int32.toNatClampNeg 6))) fun (σ6 : MS) => some (σ6))
def FC_comeHome (σC : MS) (a1 : Int32) (a2 : Int32) : Option MS :=
  if a2 = (-1000000) then (some (σC)) else (if (σC.1 3) = (-1000000) then (FC_comeHome_25 σC a1 a2) else (if (σC.1 3) ≤ (a1 + a2) then (some (σC)) else (FC_comeHome_25 σC a1 a2)))
set_option maxHeartbeats 4000000 in
set_option maxRecDepth 100000 in
theorem kC_comeHome (l : Launch) (D : va_G) (uC : Nat → Nat) (cI cB cR cM cJ : ClassId) (t : Nat → Nat) (σC : MS) (a1 : Int32) (a2 : Int32) (σC' : MS) (hf : FC_comeHome σC a1 a2 = some (σC')) : KZ l D (ctys cI cB cR cM cJ) t yX2_comeHome wsX2_comeHome 1 60 [.ref (uC 0), .int a1, .int a2] (xC uC cI cB cR cM cJ σC) none (xC uC cI cB cR cM cJ σC') := by
  refine KZ.ofV (own := RX2) (cc := cX2_comeHome) (maxL := 3) (by decide) rfl rfl (Nat.le_of_ble_eq_true rfl) ?_
  intro p e s m args below meth c R Q A ls S hRf hRl hK hA hP hD hS hl hZ hret
  obtain ⟨hx, hb, hml, hown, hts⟩ := id S
  have c24 := hts (.constant RX2 24 (-1000000)) (by decide +kernel)
  have f25 := hts (.fieldLink RX2 25 "PenniesAway$Carrier" "fewest" "I") (by decide +kernel)
  have hinX2 : ∀ w ∈ wsX20, w ∈ wsX2_comeHome := fun w hw => List.mem_cons_of_mem _ (List.mem_append_right _ hw)
  have f17 := hts (.fieldLink RX2 17 "PenniesAway$Carrier" "path" "[I") (by decide +kernel)
  have f11 := hts (.fieldLink RX2 11 "PenniesAway$Carrier" "order" "[I") (by decide +kernel)
  have ml56 := hts (.methodLink RX2 56 arraycopyName) (by decide +kernel)
  have cnat := hts (.native arraycopyName) (by decide +kernel)
  have csta := hts (.static arraycopyName) (by decide +kernel)
  have cini := hts (.initialized "java/lang/System") (by decide +kernel)
  have hl : lv_has ls 3 [(0, .ref (uC 0)), (1, .int a1), (2, .int a2)] := hl
  have hre : ∀ (τC : MS) (pc : Nat) (ls : Array Slot) (H : Heap) (locs : List Loc), (some (τC) : Option MS) = some (σC') → va_P D vwCl (xC uC cI cB cR cM cJ τC) H → va_D A (xC uC cI cB cR cM cJ τC) → va_S A s.heap H locs → decode cX2_comeHome pc = .ok (.return_, 1) → W p l e R s m args below meth c H locs 0 0 Q (F0 m pc ls []) := by intro τC pc ls H locs he; cases he; exact hret pc ls H locs
  have b25 : ∀ (σC : MS) (l1 : Int32) (l2 : Int32) (ls : Array Slot) (H : Heap) (locs : List Loc), FC_comeHome_25 σC l1 l2 = some (σC') → lv_has ls 3 [(0, .ref (uC 0)), (1, .int l1), (2, .int l2)] → va_P D vwCl (xC uC cI cB cR cM cJ σC) H → va_D A (xC uC cI cB cR cM cJ σC) → va_S A s.heap H locs → W p l e R s m args below meth c H locs 0 0 Q (F0 m 25 ls []) := by
    intro σC l1 l2 ls H locs hf hl hP hD hS
    unfold FC_comeHome_25 at hf
    refine lv_aload_n hx hb dX2_comeHome_25 rfl (lv_at hl 0 rfl) ?_
    refine lv_iload_n hx hb dX2_comeHome_26 rfl (lv_at hl 1 rfl) ?_
    refine lv_iload_n hx hb dX2_comeHome_27 rfl (lv_at hl 2 rfl) ?_
    refine lv_iadd hx hb dX2_comeHome_28 ?_
    refine Cp_3 S hinX2 hK hP hD hS 0 rfl f25 dX2_comeHome_29 (fun H locs hP hD hS => ?_)
    obtain ⟨σ4, eσ4, hf⟩ := nm_some hf
    replace hP : va_P D vwCl (xC uC cI cB cR cM cJ σ4) H := by rw [eσ4]; exact hP
    replace hD : va_D A (xC uC cI cB cR cM cJ σ4) := by rw [eσ4]; exact hD
    refine lv_aload_n hx hb dX2_comeHome_32 rfl (lv_at hl 0 rfl) ?_
    refine Cg_1 S hinX2 hK hP 0 rfl f17 dX2_comeHome_33 ?_
    refine lv_iconst (v := 0) hx hb dX2_comeHome_36 (by decide) ?_
    refine lv_aload_n hx hb dX2_comeHome_37 rfl (lv_at hl 0 rfl) ?_
    refine Cg_0 S hinX2 hK hP 0 rfl f11 dX2_comeHome_38 ?_
    refine lv_iconst (v := 0) hx hb dX2_comeHome_41 (by decide) ?_
    refine lv_bipush (v := 6) hx hb dX2_comeHome_42 (by decide) ?_
    obtain ⟨g5, hf⟩ := gd_some hf
    refine va_copyi (f := σ4.2 1) (g := σ4.2 0) (n0 := 6) (n1 := 6) (c0 := cI) (c1 := cI) (ty := .int) hx hb (hml.trans hl.1.symm) hown ml56 cnat csta cini hK hP hD hS 2 1 0 0 rfl rfl rfl rfl rfl g5.1 g5.2.1 g5.2.2.1 g5.2.2.2.1 g5.2.2.2.2 (fun _ _ => rfl) (by rw [hRf]; decide) (by rw [hRl]; exact Nat.le_of_ble_eq_true rfl) dX2_comeHome_44 (fun H locs hP hD hS => ?_)
    obtain ⟨σ6, eσ6, hf⟩ := nm_some hf
    replace hP : va_P D vwCl (xC uC cI cB cR cM cJ σ6) H := by rw [eσ6]; exact hP
    replace hD : va_D A (xC uC cI cB cR cM cJ σ6) := by rw [eσ6]; exact hD
    exact hre _ _ _ _ _ hf hP hD hS dX2_comeHome_47
  unfold FC_comeHome at hf
  refine lv_iload_n hx hb dX2_comeHome_0 rfl (lv_at hl 2 rfl) ?_
  refine lv_ldc (v := (-1000000)) hx hb hown c24 dX2_comeHome_1 ?_
  refine lv_icmp_eq (tgt := 47) hx hb dX2_comeHome_3 (by decide) (fun c1 => ?_) (fun c1 => ?_)
  · have hf := (if_pos c1).symm.trans hf
    exact hre _ _ _ _ _ hf hP hD hS dX2_comeHome_47
  · have hf := (if_neg c1).symm.trans hf
    refine lv_aload_n hx hb dX2_comeHome_6 rfl (lv_at hl 0 rfl) ?_
    refine Cg_3 S hinX2 hK hP 0 rfl f25 dX2_comeHome_7 ?_
    refine lv_ldc (v := (-1000000)) hx hb hown c24 dX2_comeHome_10 ?_
    refine lv_icmp_eq (tgt := 25) hx hb dX2_comeHome_12 (by decide) (fun c2 => ?_) (fun c2 => ?_)
    · have hf := (if_pos c2).symm.trans hf
      exact b25 _ _ _ _ _ _ hf (lv_sub hl [0, 1, 2] rfl) hP hD hS
    · have hf := (if_neg c2).symm.trans hf
      refine lv_iload_n hx hb dX2_comeHome_15 rfl (lv_at hl 1 rfl) ?_
      refine lv_iload_n hx hb dX2_comeHome_16 rfl (lv_at hl 2 rfl) ?_
      refine lv_iadd hx hb dX2_comeHome_17 ?_
      refine lv_aload_n hx hb dX2_comeHome_18 rfl (lv_at hl 0 rfl) ?_
      refine Cg_3 S hinX2 hK hP 0 rfl f25 dX2_comeHome_19 ?_
      refine lv_icmp_ge (tgt := 47) hx hb dX2_comeHome_22 (by decide) (fun c3 => ?_) (fun c3 => ?_)
      · have hf := (if_pos c3).symm.trans hf
        exact hre _ _ _ _ _ hf hP hD hS dX2_comeHome_47
      · have hf := (if_neg c3).symm.trans hf
        exact b25 _ _ _ _ _ _ hf (lv_sub hl [0, 1, 2] rfl) hP hD hS
def FC_goOn_16 (rc : MS → MS → Int32 → Int32 → Int32 → Int32 → Option MS) (σC : MS) (σL : MS) (l3 : Int32) (l4 : Int32) : Option MS :=
  Option.bind (FL_distance σL l3 0) fun (r14 : Int32) => Option.bind (FC_comeHome σC l4 r14) fun (σ16 : MS) => some (σ16)
def FC_goOn_110 (rc : MS → MS → Int32 → Int32 → Int32 → Int32 → Option MS) (ag32 : MS → MS → Int32 → Int32 → Int32 → Int32 → Int32 → Option MS) (σC : MS) (σL : MS) (l2 : Int32) (l3 : Int32) (l4 : Int32) (l5 : Int32) (l6 : Int32) : Option MS :=
  nm (l6 + 1) fun (x13 : Int32) => ag32 σC σL l2 l3 l4 l5 x13
def FC_goOn_32 (rc : MS → MS → Int32 → Int32 → Int32 → Int32 → Option MS) : Nat → MS → MS → Int32 → Int32 → Int32 → Int32 → Int32 → Option MS
  | 0, _, _, _, _, _, _, _ => none
  | n + 1, σC, σL, l2, l3, l4, l5, l6 => if (σL.1 6) ≤ l6 then (some (σC)) else (gd (¬ ((l6 : Int32) < 0 ∨ 6 ≤ Int32.toNatClampNeg l6)) (Option.bind (FL_distance σL l3 (σL.2 1 (Int32.toNatClampNeg l6))) fun (r5 : Int32) => if ((l2 >>> (l6 &&& 31)) &&& 1) = 1 then (if r5 = (-1000000) then (FC_goOn_110 rc (FC_goOn_32 rc n) σC σL l2 l3 l4 l5 l6) else (gd (¬ ((l5 : Int32) < 0 ∨ 6 ≤ Int32.toNatClampNeg l5)) (nm (setA σC 1 (Int32.toNatClampNeg l5) l6) fun (σ9 : MS) => gd (¬ ((l6 : Int32) < 0 ∨ 6 ≤ Int32.toNatClampNeg l6)) (Option.bind (rc σ9 σL (l2 &&& ((1 <<< (l6 &&& 31)) ^^^ (-1))) (σL.2 1 (Int32.toNatClampNeg l6)) (l4 + r5) (l5 + 1)) fun (σ12 : MS) => FC_goOn_110 rc (FC_goOn_32 rc n) σ12 σL l2 l3 l4 l5 l6)))) else (FC_goOn_110 rc (FC_goOn_32 rc n) σC σL l2 l3 l4 l5 l6)))
def FC_goOn_B (rc : MS → MS → Int32 → Int32 → Int32 → Int32 → Option MS) (σC : MS) (σL : MS) (a2 : Int32) (a3 : Int32) (a4 : Int32) (a5 : Int32) : Option MS :=
  if (σC.1 2) ≤ a5 then (FC_goOn_16 rc σC σL a3 a4) else (if a5 < 6 then (FC_goOn_32 rc fuelN σC σL a2 a3 a4 a5 0) else (FC_goOn_16 rc σC σL a3 a4))
def FC_goOn : Nat → MS → MS → Int32 → Int32 → Int32 → Int32 → Option MS
  | 0 => fun _ _ _ _ _ _ => none
  | d + 1 => FC_goOn_B (FC_goOn d)
set_option maxHeartbeats 4000000 in
set_option maxRecDepth 100000 in
theorem kC_goOn (l : Launch) (D : va_G) (uC uL : Nat → Nat) (cI cB cR cM cJ : ClassId) (t : Nat → Nat) : ∀ (d : Nat) (σC : MS) (σL : MS) (a2 : Int32) (a3 : Int32) (a4 : Int32) (a5 : Int32) (σC' : MS) (hf : FC_goOn d σC σL a2 a3 a4 a5 = some (σC')), KZ l D (ctys cI cB cR cM cJ) t yX2_goOn wsX2_goOn (d + 3) (100 * d + 142) [.ref (uC 0), .ref (uL 0), .int a2, .int a3, .int a4, .int a5] (xC uC cI cB cR cM cJ σC ++ xL uL cI cB cR cM cJ σL) none (xC uC cI cB cR cM cJ σC' ++ xL uL cI cB cR cM cJ σL) := by
  intro d
  induction d with
  | zero => intro σC σL a2 a3 a4 a5 σC' hf; exact absurd hf (by simp [FC_goOn])
  | succ d ihd =>
  intro σC σL a2 a3 a4 a5 σC' hf
  rw [FC_goOn] at hf
  refine KZ.ofV (own := RX2) (cc := cX2_goOn) (maxL := 8) (by decide) rfl rfl (Nat.le_of_ble_eq_true rfl) ?_
  intro p e s m args below meth c R Q A ls S hRf hRl hK hA hP hD hS hl hZ hret
  obtain ⟨hx, hb, hml, hown, hts⟩ := id S
  have f20 := hts (.fieldLink RX2 20 "PenniesAway$Carrier" "stops" "I") (by decide +kernel)
  have hinX2 : ∀ w ∈ wsX20, w ∈ wsX2_goOn := fun w hw => List.mem_cons_of_mem _ (List.mem_append_left _ (List.mem_append_right _ hw))
  have f50 := hts (.fieldLink RX2 50 "PenniesAway$Realm" "holders" "I") (by decide +kernel)
  have hinX5 : ∀ w ∈ wsX50, w ∈ wsX2_goOn := fun w hw => List.mem_cons_of_mem _ (List.mem_append_right _ hw)
  have f53 := hts (.fieldLink RX2 53 "PenniesAway$Realm" "towns" "[I") (by decide +kernel)
  have c24 := hts (.constant RX2 24 (-1000000)) (by decide +kernel)
  have f17 := hts (.fieldLink RX2 17 "PenniesAway$Carrier" "path" "[I") (by decide +kernel)
  have hl : lv_has ls 8 [(0, .ref (uC 0)), (1, .ref (uL 0)), (2, .int a2), (3, .int a3), (4, .int a4), (5, .int a5)] := hl
  have hre : ∀ (τC : MS) (pc : Nat) (ls : Array Slot) (H : Heap) (locs : List Loc), (some (τC) : Option MS) = some (σC') → va_P D vwCl (xC uC cI cB cR cM cJ τC ++ xL uL cI cB cR cM cJ σL) H → va_D A (xC uC cI cB cR cM cJ τC ++ xL uL cI cB cR cM cJ σL) → va_S A s.heap H locs → decode cX2_goOn pc = .ok (.return_, 1) → W p l e R s m args below meth c H locs 0 0 Q (F0 m pc ls []) := by intro τC pc ls H locs he; cases he; exact hret pc ls H locs
  have b16 : ∀ (σC : MS) (l3 : Int32) (l4 : Int32) (ls : Array Slot) (H : Heap) (locs : List Loc), FC_goOn_16 (FC_goOn d) σC σL l3 l4 = some (σC') → lv_has ls 8 [(0, .ref (uC 0)), (1, .ref (uL 0)), (3, .int l3), (4, .int l4)] → va_P D vwCl (xC uC cI cB cR cM cJ σC ++ xL uL cI cB cR cM cJ σL) H → va_D A (xC uC cI cB cR cM cJ σC ++ xL uL cI cB cR cM cJ σL) → va_S A s.heap H locs → W p l e R s m args below meth c H locs 0 0 Q (F0 m 16 ls []) := by
    intro σC l3 l4 ls H locs hf hl hP hD hS
    unfold FC_goOn_16 at hf
    refine lv_aload_n hx hb dX2_goOn_16 rfl (lv_at hl 0 rfl) ?_
    refine lv_iload hx hb dX2_goOn_17 (lv_at hl 3 rfl) ?_
    refine lv_aload_n hx hb dX2_goOn_19 rfl (lv_at hl 1 rfl) ?_
    refine lv_iload_n hx hb dX2_goOn_20 rfl (lv_at hl 2 rfl) ?_
    refine lv_iconst (v := 0) hx hb dX2_goOn_21 (by decide) ?_
    obtain ⟨r14, hr14, hf⟩ := bi_some hf
    refine kz_v (ci := 4) (q0 := 0) (n := 2) S hRf hRl hK hA hZ hP hD hS hl [3, 4, 5, 6, 7] [.int l3, .int 0] [.int l4, .ref (uC 0)] (kL_distance l D uL cI cB cR cM cJ t σL l3 0 r14 hr14) rfl rfl rfl gX2_goOn_X5_distance rfl (by decide +kernel) rfl ⟨by first | decide | omega, by first | decide | omega⟩ rfl rfl rfl rfl (Nat.le_of_ble_eq_true rfl) dX2_goOn_22 (fun H locs hP hD hS => ?_)
    replace hP : va_P D vwCl (xC uC cI cB cR cM cJ σC ++ xL uL cI cB cR cM cJ σL) H := hP
    replace hD : va_D A (xC uC cI cB cR cM cJ σC ++ xL uL cI cB cR cM cJ σL) := hD
    refine W.eq (g2 := F0 m 25 ls [.int r14, .int l4, .ref (uC 0)]) rfl ?_
    obtain ⟨σ16, hr15, hf⟩ := bi_some hf
    refine kz_v (ci := 2) (q0 := 0) (n := 2) S hRf hRl hK hA hZ hP hD hS hl [0, 1, 2] [.int l4, .int r14] [] (kC_comeHome l D uC cI cB cR cM cJ t σC l4 r14 σ16 hr15) rfl rfl rfl gX2_goOn_X2_comeHome rfl (by decide +kernel) rfl ⟨by first | decide | omega, by first | decide | omega⟩ rfl rfl rfl rfl (Nat.le_of_ble_eq_true rfl) dX2_goOn_25 (fun H locs hP hD hS => ?_)
    replace hP : va_P D vwCl (xC uC cI cB cR cM cJ σ16 ++ xL uL cI cB cR cM cJ σL) H := hP
    replace hD : va_D A (xC uC cI cB cR cM cJ σ16 ++ xL uL cI cB cR cM cJ σL) := hD
    refine W.eq (g2 := F0 m 28 ls []) rfl ?_
    exact hre _ _ _ _ _ hf hP hD hS dX2_goOn_28
  have b110 : ∀ (ag32 : MS → MS → Int32 → Int32 → Int32 → Int32 → Int32 → Option MS) (hag32 : ∀ (σC : MS) (l2 : Int32) (l3 : Int32) (l4 : Int32) (l5 : Int32) (l6 : Int32) (ls : Array Slot) (H : Heap) (locs : List Loc), ag32 σC σL l2 l3 l4 l5 l6 = some (σC') → lv_has ls 8 [(0, .ref (uC 0)), (1, .ref (uL 0)), (2, .int l2), (3, .int l3), (4, .int l4), (5, .int l5), (6, .int l6)] → va_P D vwCl (xC uC cI cB cR cM cJ σC ++ xL uL cI cB cR cM cJ σL) H → va_D A (xC uC cI cB cR cM cJ σC ++ xL uL cI cB cR cM cJ σL) → va_S A s.heap H locs → W p l e R s m args below meth c H locs 0 0 Q (F0 m 32 ls [])), ∀ (σC : MS) (l2 : Int32) (l3 : Int32) (l4 : Int32) (l5 : Int32) (l6 : Int32) (ls : Array Slot) (H : Heap) (locs : List Loc), FC_goOn_110 (FC_goOn d) ag32 σC σL l2 l3 l4 l5 l6 = some (σC') → lv_has ls 8 [(0, .ref (uC 0)), (1, .ref (uL 0)), (2, .int l2), (3, .int l3), (4, .int l4), (5, .int l5), (6, .int l6)] → va_P D vwCl (xC uC cI cB cR cM cJ σC ++ xL uL cI cB cR cM cJ σL) H → va_D A (xC uC cI cB cR cM cJ σC ++ xL uL cI cB cR cM cJ σL) → va_S A s.heap H locs → W p l e R s m args below meth c H locs 0 0 Q (F0 m 110 ls []) := by
    intro ag32 hag32 σC l2 l3 l4 l5 l6 ls H locs hf hl hP hD hS
    unfold FC_goOn_110 at hf
    obtain ⟨x13, ex13, hf⟩ := nm_some hf
    refine lv_iinc (v := x13) (lv' := [(6, .int x13), (0, .ref (uC 0)), (1, .ref (uL 0)), (2, .int l2), (3, .int l3), (4, .int l4), (5, .int l5)]) hx hb dX2_goOn_110 hl (k := 6) rfl (by rw [ex13]; rfl) (by decide) rfl (fun ls hl => ?_)
    refine lv_goto (tgt := 32) hx hb dX2_goOn_113 (by decide) ?_
    exact hag32 _ _ _ _ _ _ _ _ _ hf (lv_sub hl [1, 2, 3, 4, 5, 6, 0] rfl) hP hD hS
  have b32 : ∀ (n : Nat), ∀ (σC : MS) (l2 : Int32) (l3 : Int32) (l4 : Int32) (l5 : Int32) (l6 : Int32) (ls : Array Slot) (H : Heap) (locs : List Loc), FC_goOn_32 (FC_goOn d) n σC σL l2 l3 l4 l5 l6 = some (σC') → lv_has ls 8 [(0, .ref (uC 0)), (1, .ref (uL 0)), (2, .int l2), (3, .int l3), (4, .int l4), (5, .int l5), (6, .int l6)] → va_P D vwCl (xC uC cI cB cR cM cJ σC ++ xL uL cI cB cR cM cJ σL) H → va_D A (xC uC cI cB cR cM cJ σC ++ xL uL cI cB cR cM cJ σL) → va_S A s.heap H locs → W p l e R s m args below meth c H locs 0 0 Q (F0 m 32 ls []) := by
    intro n
    induction n with
    | zero => intro σC l2 l3 l4 l5 l6 ls H locs hf; exact absurd hf (by simp [FC_goOn_32])
    | succ n ih =>
      intro σC l2 l3 l4 l5 l6 ls H locs hf hl hP hD hS
      rw [FC_goOn_32] at hf
      refine lv_iload hx hb dX2_goOn_32 (lv_at hl 6 rfl) ?_
      refine lv_aload_n hx hb dX2_goOn_34 rfl (lv_at hl 1 rfl) ?_
      refine Lg_6 S hinX5 hK hP 3 rfl f50 dX2_goOn_35 ?_
      refine lv_icmp_ge (tgt := 116) hx hb dX2_goOn_38 (by decide) (fun c3 => ?_) (fun c3 => ?_)
      · have hf := (if_pos c3).symm.trans hf
        exact hre _ _ _ _ _ hf hP hD hS dX2_goOn_116
      · have hf := (if_neg c3).symm.trans hf
        refine lv_aload_n hx hb dX2_goOn_41 rfl (lv_at hl 1 rfl) ?_
        refine lv_iload_n hx hb dX2_goOn_42 rfl (lv_at hl 3 rfl) ?_
        refine lv_aload_n hx hb dX2_goOn_43 rfl (lv_at hl 1 rfl) ?_
        refine Lg_1 S hinX5 hK hP 3 rfl f53 dX2_goOn_44 ?_
        refine lv_iload hx hb dX2_goOn_47 (lv_at hl 6 rfl) ?_
        obtain ⟨g4, hf⟩ := gd_some hf
        refine va_iald (f := σL.2 1) (n := 6) (cA := cI) hx hb hK hP 5 0 rfl rfl g4 dX2_goOn_49 ?_
        obtain ⟨r5, hr5, hf⟩ := bi_some hf
        refine kz_v (ci := 4) (q0 := 0) (n := 2) S hRf hRl hK hA hZ hP hD hS hl [3, 4, 5, 6, 7] [.int l3, .int (σL.2 1 (Int32.toNatClampNeg l6))] [] (kL_distance l D uL cI cB cR cM cJ t σL l3 (σL.2 1 (Int32.toNatClampNeg l6)) r5 hr5) rfl rfl rfl gX2_goOn_X5_distance rfl (by decide +kernel) rfl ⟨by first | decide | omega, by first | decide | omega⟩ rfl rfl rfl rfl (Nat.le_of_ble_eq_true rfl) dX2_goOn_50 (fun H locs hP hD hS => ?_)
        replace hP : va_P D vwCl (xC uC cI cB cR cM cJ σC ++ xL uL cI cB cR cM cJ σL) H := hP
        replace hD : va_D A (xC uC cI cB cR cM cJ σC ++ xL uL cI cB cR cM cJ σL) := hD
        refine W.eq (g2 := F0 m 53 ls [.int r5]) rfl ?_
        refine lv_istore (lv' := [(7, .int r5), (0, .ref (uC 0)), (1, .ref (uL 0)), (2, .int l2), (3, .int l3), (4, .int l4), (5, .int l5), (6, .int l6)]) hx hb dX2_goOn_53 hl (by decide) rfl (fun ls hl => ?_)
        refine lv_iload_n hx hb dX2_goOn_55 rfl (lv_at hl 3 rfl) ?_
        refine lv_iload hx hb dX2_goOn_56 (lv_at hl 7 rfl) ?_
        refine lv_ishr hx hb dX2_goOn_58 ?_
        refine lv_iconst (v := 1) hx hb dX2_goOn_59 (by decide) ?_
        refine lv_iand hx hb dX2_goOn_60 ?_
        refine lv_iconst (v := 1) hx hb dX2_goOn_61 (by decide) ?_
        refine lv_icmp_ne (tgt := 110) hx hb dX2_goOn_62 (by decide) (fun c6 => ?_) (fun c6 => ?_)
        · have hf := (if_neg c6).symm.trans hf
          exact b110 (FC_goOn_32 (FC_goOn d) n) ih _ _ _ _ _ _ _ _ _ hf (lv_sub hl [1, 2, 3, 4, 5, 6, 7] rfl) hP hD hS
        · have hf := (if_pos c6).symm.trans hf
          refine lv_iload hx hb dX2_goOn_65 (lv_at hl 0 rfl) ?_
          refine lv_ldc (v := (-1000000)) hx hb hown c24 dX2_goOn_67 ?_
          refine lv_icmp_eq (tgt := 110) hx hb dX2_goOn_69 (by decide) (fun c7 => ?_) (fun c7 => ?_)
          · have hf := (if_pos c7).symm.trans hf
            exact b110 (FC_goOn_32 (FC_goOn d) n) ih _ _ _ _ _ _ _ _ _ hf (lv_sub hl [1, 2, 3, 4, 5, 6, 7] rfl) hP hD hS
          · have hf := (if_neg c7).symm.trans hf
            refine lv_aload_n hx hb dX2_goOn_72 rfl (lv_at hl 1 rfl) ?_
            refine Cg_1 S hinX2 hK hP 0 rfl f17 dX2_goOn_73 ?_
            refine lv_iload hx hb dX2_goOn_76 (lv_at hl 6 rfl) ?_
            refine lv_iload hx hb dX2_goOn_78 (lv_at hl 7 rfl) ?_
            obtain ⟨g8, hf⟩ := gd_some hf
            refine va_iast (f := σC.2 1) (n := 6) (cA := cI) hx hb hK hP hD hS 2 0 rfl rfl g8 dX2_goOn_80 (fun H locs hP hD hS => ?_)
            obtain ⟨σ9, eσ9, hf⟩ := nm_some hf
            replace hP : va_P D vwCl (xC uC cI cB cR cM cJ σ9 ++ xL uL cI cB cR cM cJ σL) H := by rw [eσ9]; exact hP
            replace hD : va_D A (xC uC cI cB cR cM cJ σ9 ++ xL uL cI cB cR cM cJ σL) := by rw [eσ9]; exact hD
            refine lv_aload_n hx hb dX2_goOn_81 rfl (lv_at hl 1 rfl) ?_
            refine lv_aload_n hx hb dX2_goOn_82 rfl (lv_at hl 2 rfl) ?_
            refine lv_iload_n hx hb dX2_goOn_83 rfl (lv_at hl 3 rfl) ?_
            refine lv_iconst (v := 1) hx hb dX2_goOn_84 (by decide) ?_
            refine lv_iload hx hb dX2_goOn_85 (lv_at hl 7 rfl) ?_
            refine lv_ishl hx hb dX2_goOn_87 ?_
            refine lv_iconst (v := (-1)) hx hb dX2_goOn_88 (by decide) ?_
            refine lv_ixor hx hb dX2_goOn_89 ?_
            refine lv_iand hx hb dX2_goOn_90 ?_
            refine lv_aload_n hx hb dX2_goOn_91 rfl (lv_at hl 2 rfl) ?_
            refine Lg_1 S hinX5 hK hP 3 rfl f53 dX2_goOn_92 ?_
            refine lv_iload hx hb dX2_goOn_95 (lv_at hl 7 rfl) ?_
            obtain ⟨g10, hf⟩ := gd_some hf
            refine va_iald (f := σL.2 1) (n := 6) (cA := cI) hx hb hK hP 5 0 rfl rfl g10 dX2_goOn_97 ?_
            refine lv_iload hx hb dX2_goOn_98 (lv_at hl 5 rfl) ?_
            refine lv_iload hx hb dX2_goOn_100 (lv_at hl 0 rfl) ?_
            refine lv_iadd hx hb dX2_goOn_102 ?_
            refine lv_iload hx hb dX2_goOn_103 (lv_at hl 6 rfl) ?_
            refine lv_iconst (v := 1) hx hb dX2_goOn_105 (by decide) ?_
            refine lv_iadd hx hb dX2_goOn_106 ?_
            obtain ⟨σ12, hr11, hf⟩ := bi_some hf
            refine kz_v (ci := 2) (q0 := 0) (n := 5) S hRf hRl hK hA hZ hP hD hS hl [0, 1, 2, 3, 4, 5, 6, 7] [.ref (uL 0), .int (l2 &&& ((1 <<< (l6 &&& 31)) ^^^ (-1))), .int (σL.2 1 (Int32.toNatClampNeg l6)), .int (l4 + r5), .int (l5 + 1)] [] (ihd σ9 σL (l2 &&& ((1 <<< (l6 &&& 31)) ^^^ (-1))) (σL.2 1 (Int32.toNatClampNeg l6)) (l4 + r5) (l5 + 1) σ12 hr11) rfl rfl rfl gX2_goOn_X2_goOn rfl (by decide +kernel) rfl ⟨by first | decide | omega, by first | decide | omega⟩ rfl rfl rfl rfl (Nat.le_of_ble_eq_true rfl) dX2_goOn_107 (fun H locs hP hD hS => ?_)
            replace hP : va_P D vwCl (xC uC cI cB cR cM cJ σ12 ++ xL uL cI cB cR cM cJ σL) H := hP
            replace hD : va_D A (xC uC cI cB cR cM cJ σ12 ++ xL uL cI cB cR cM cJ σL) := hD
            refine W.eq (g2 := F0 m 110 ls []) rfl ?_
            exact b110 (FC_goOn_32 (FC_goOn d) n) ih _ _ _ _ _ _ _ _ _ hf (lv_sub hl [1, 2, 3, 4, 5, 6, 7] rfl) hP hD hS
  unfold FC_goOn_B at hf
  refine lv_iload hx hb dX2_goOn_0 (lv_at hl 5 rfl) ?_
  refine lv_aload_n hx hb dX2_goOn_2 rfl (lv_at hl 0 rfl) ?_
  refine Cg_2 S hinX2 hK hP 0 rfl f20 dX2_goOn_3 ?_
  refine lv_icmp_ge (tgt := 16) hx hb dX2_goOn_6 (by decide) (fun c1 => ?_) (fun c1 => ?_)
  · have hf := (if_pos c1).symm.trans hf
    exact b16 _ _ _ _ _ _ hf (lv_sub hl [0, 1, 3, 4] rfl) hP hD hS
  · have hf := (if_neg c1).symm.trans hf
    refine lv_iload hx hb dX2_goOn_9 (lv_at hl 5 rfl) ?_
    refine lv_bipush (v := 6) hx hb dX2_goOn_11 (by decide) ?_
    refine lv_icmp_lt (tgt := 29) hx hb dX2_goOn_13 (by decide) (fun c2 => ?_) (fun c2 => ?_)
    · have hf := (if_pos c2).symm.trans hf
      refine lv_iconst (v := 0) hx hb dX2_goOn_29 (by decide) ?_
      refine lv_istore (lv' := [(6, .int 0), (0, .ref (uC 0)), (1, .ref (uL 0)), (2, .int a2), (3, .int a3), (4, .int a4), (5, .int a5)]) hx hb dX2_goOn_30 hl (by decide) rfl (fun ls hl => ?_)
      exact b32 fuelN _ _ _ _ _ _ _ _ _ hf (lv_sub hl [1, 2, 3, 4, 5, 6, 0] rfl) hP hD hS
    · have hf := (if_neg c2).symm.trans hf
      exact b16 _ _ _ _ _ _ hf (lv_sub hl [0, 1, 3, 4] rfl) hP hD hS
