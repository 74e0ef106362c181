def FP_days_62 : Nat → MS → MS → Int32 → Int32 → Int32 → Option (Int32 × MS × MS)
  | 0, _, _, _, _, _ => none
  | n + 1, σL, σK, l1, l2, l3 => if l1 ≤ l3 then (some (l2, σL, σK)) else (bd2 (FL_liveDay σL) fun (r9 : Int32) (τ10 : MS) => nm (l2 ||| r9) fun (x11 : Int32) => nm (l3 + 1) fun (x12 : Int32) => (FP_days_62 n) τ10 σK l1 x11 x12)
def FP_days (σL : MS) (σK : MS) (a1 : Int32) : Option (Int32 × MS × MS) :=
  if (σL.1 4) = 0 then (some ((-1000002), σL, σK)) else (Option.bind (FP_outside a1 1 99) fun (r2 : Int32) => if r2 = 0 then (Option.bind (FL_today σL) fun (r4 : Int32) => if (r4 + a1) ≤ 9999 then (Option.bind (FK_keep σK (vOf σL 3)) fun (τ7 : MS) => FP_days_62 fuelN σL τ7 a1 0 0) else (some ((-1000003), σL, σK))) else (some ((-1000001), σL, σK)))
set_option maxHeartbeats 4000000 in
set_option maxRecDepth 100000 in
theorem kP_days (l : Launch) (D : va_G) (uP uL uG uR uT uC uA uK : Nat → Nat) (uW uI : Nat → Nat → Nat) (cI cB cR cM cJ : ClassId) (t : Nat → Nat) (σP σL σG σR σT σC σA σK : MS) (ω ι : Nat → MS) (a1 : Int32) (r : Int32) (σL' : MS) (σK' : MS) (hf : FP_days σL σK a1 = some (r, σL', σK')) : KZ l D (ctys cI cB cR cM cJ) t yX8_days wsX8_days 4 86 [.ref (uP 0), .int a1] (pw uP uL uG uR uT uC uA uK uW uI cI cB cR cM cJ σP σL σG σR σT σC σA σK ω ι) (some (.int r)) (pw uP uL uG uR uT uC uA uK uW uI cI cB cR cM cJ σP σL' σG σR σT σC σA σK' ω ι) := by
  refine KZ.ofI (own := RX8) (cc := cX8_days) (maxL := 4) (by decide) rfl rfl (Nat.le_of_ble_eq_true rfl) ?_
  intro p e s m args below meth c R Q A ls S hRf hRl hK hA hP hD hS hl hZ hret
  obtain ⟨hx, hb, hml, hown, hts⟩ := id S
  have f57 := hts (.fieldLink RX8 57 "PenniesAway" "kingdom" "LPenniesAway$Realm;") (by decide +kernel)
  have hinX8 : ∀ w ∈ wsX80, w ∈ wsX8_days := fun w hw => List.mem_cons_of_mem _ (List.mem_append_left _ (List.mem_append_left _ (List.mem_append_right _ hw)))
  have f185 := hts (.fieldLink RX8 185 "PenniesAway$Realm" "told" "Z") (by decide +kernel)
  have hinX5 : ∀ w ∈ wsX50, w ∈ wsX8_days := fun w hw => List.mem_cons_of_mem _ (List.mem_append_left _ (List.mem_append_right _ hw))
  have f38 := hts (.fieldLink RX8 38 "PenniesAway" "acts" "LPenniesAway$Acts;") (by decide +kernel)
  have f169 := hts (.fieldLink RX8 169 "PenniesAway$Realm" "changing" "[I") (by decide +kernel)
  have c128 := hts (.constant RX8 128 (-1000003)) (by decide +kernel)
  have c80 := hts (.constant RX8 80 (-1000001)) (by decide +kernel)
  have c168 := hts (.constant RX8 168 (-1000002)) (by decide +kernel)
  have hl : lv_has ls 4 [(0, .ref (uP 0)), (1, .int a1)] := hl
  have hre : ∀ (x : Int32) (τL : MS) (τK : MS) (pc : Nat) (ls : Array Slot) (H : Heap) (locs : List Loc), (some (x, τL, τK) : Option (Int32 × MS × MS)) = some (r, σL', σK') → va_P D vwCl (pw uP uL uG uR uT uC uA uK uW uI cI cB cR cM cJ σP τL σG σR σT σC σA τK ω ι) H → va_D A (pw uP uL uG uR uT uC uA uK uW uI cI cB cR cM cJ σP τL σG σR σT σC σA τK ω ι) → va_S A s.heap H locs → decode cX8_days pc = .ok (.ireturn, 1) → W p l e R s m args below meth c H locs 0 0 Q (F0 m pc ls [.int x]) := by intro x τL τK pc ls H locs he; cases he; exact hret pc ls H locs
  have b62 : ∀ (n : Nat), ∀ (σL : MS) (σK : MS) (l1 : Int32) (l2 : Int32) (l3 : Int32) (ls : Array Slot) (H : Heap) (locs : List Loc), FP_days_62 n σL σK l1 l2 l3 = some (r, σL', σK') → lv_has ls 4 [(0, .ref (uP 0)), (1, .int l1), (2, .int l2), (3, .int l3)] → va_P D vwCl (pw uP uL uG uR uT uC uA uK uW uI cI cB cR cM cJ σP σL σG σR σT σC σA σK ω ι) H → va_D A (pw uP uL uG uR uT uC uA uK uW uI cI cB cR cM cJ σP σL σG σR σT σC σA σK ω ι) → va_S A s.heap H locs → W p l e R s m args below meth c H locs 0 0 Q (F0 m 62 ls []) := by
    intro n
    induction n with
    | zero => intro σL σK l1 l2 l3 ls H locs hf; exact absurd hf (by simp [FP_days_62])
    | succ n ih =>
      intro σL σK l1 l2 l3 ls H locs hf hl hP hD hS
      rw [FP_days_62] at hf
      refine lv_iload_n hx hb dX8_days_62 rfl (lv_at hl 3 rfl) ?_
      refine lv_iload_n hx hb dX8_days_63 rfl (lv_at hl 1 rfl) ?_
      refine lv_icmp_ge (tgt := 83) hx hb dX8_days_64 (by decide) (fun c8 => ?_) (fun c8 => ?_)
      · have hf := (if_pos c8).symm.trans hf
        refine lv_iload_n hx hb dX8_days_83 rfl (lv_at hl 2 rfl) ?_
        exact hre _ _ _ _ _ _ _ hf hP hD hS dX8_days_84
      · have hf := (if_neg c8).symm.trans hf
        refine lv_iload_n hx hb dX8_days_67 rfl (lv_at hl 2 rfl) ?_
        refine lv_aload_n hx hb dX8_days_68 rfl (lv_at hl 0 rfl) ?_
        refine Pg_7 S hinX8 hK hP f57 dX8_days_69 ?_
        obtain ⟨r9, τ10, hr9, hf⟩ := bd2_some hf
        refine kz_v (ci := 4) (q0 := 0) (n := 0) S hRf hRl hK hA hZ hP hD hS hl [3, 4, 5, 6, 7] [] [.int l2] (kL_liveDay l D uL cI cB cR cM cJ t σL r9 τ10 hr9) pw_cL rfl rfl gX8_days_X5_liveDay rfl (by decide +kernel) rfl ⟨by decide, by decide⟩ rfl rfl rfl rfl (Nat.le_of_ble_eq_true rfl) dX8_days_72 (fun H locs hP hD hS => ?_)
        rw [pw_kL] at hP hD
        refine W.eq (g2 := F0 m 75 ls [.int r9, .int l2]) rfl ?_
        refine lv_ior hx hb dX8_days_75 ?_
        refine lv_topi (fun x11 ex11 => ?_)
        have hf := nm_at ex11 hf
        refine lv_istore_n (lv' := [(2, .int x11), (0, .ref (uP 0)), (1, .int l1), (3, .int l3)]) hx hb dX8_days_76 rfl hl (by decide) rfl (fun ls hl => ?_)
        obtain ⟨x12, ex12, hf⟩ := nm_some hf
        refine lv_iinc (v := x12) (lv' := [(3, .int x12), (2, .int x11), (0, .ref (uP 0)), (1, .int l1)]) hx hb dX8_days_77 hl (k := 3) rfl (by rw [ex12]; rfl) (by decide) rfl (fun ls hl => ?_)
        refine lv_goto (tgt := 62) hx hb dX8_days_80 (by decide) ?_
        exact ih _ _ _ _ _ _ _ _ hf (lv_sub hl [2, 3, 1, 0] rfl) hP hD hS
  unfold FP_days at hf
  refine lv_aload_n hx hb dX8_days_0 rfl (lv_at hl 0 rfl) ?_
  refine Pg_7 S hinX8 hK hP f57 dX8_days_1 ?_
  refine Lg_4 S hinX5 hK hP 3 rfl f185 dX8_days_4 ?_
  refine lv_if_ne (tgt := 13) hx hb dX8_days_7 (by decide) (fun c1 => ?_) (fun c1 => ?_)
  · have hf := (if_neg c1).symm.trans hf
    refine lv_iload_n hx hb dX8_days_13 rfl (lv_at hl 1 rfl) ?_
    refine lv_iconst (v := 1) hx hb dX8_days_14 (by decide) ?_
    refine lv_bipush (v := 99) hx hb dX8_days_15 (by decide) ?_
    obtain ⟨r2, hr2, hf⟩ := bi_some hf
    refine kz_s (n := 3) S hRf hRl hK hA hZ hP hD hS hl [] [.int a1, .int 1, .int 99] [] (kP_outside l D cI cB cR cM cJ t [] a1 1 99 r2 hr2) rfl rfl rfl gX8_days_X8_outside rfl (by decide +kernel) rfl ⟨by decide, by decide⟩ rfl (Nat.le_of_ble_eq_true rfl) dX8_days_17 (fun H locs hP hD hS => ?_)
    replace hP : va_P D vwCl (pw uP uL uG uR uT uC uA uK uW uI cI cB cR cM cJ σP σL σG σR σT σC σA σK ω ι) H := hP
    replace hD : va_D A (pw uP uL uG uR uT uC uA uK uW uI cI cB cR cM cJ σP σL σG σR σT σC σA σK ω ι) := hD
    refine W.eq (g2 := F0 m 20 ls [.int r2]) rfl ?_
    refine lv_if_eq (tgt := 26) hx hb dX8_days_20 (by decide) (fun c3 => ?_) (fun c3 => ?_)
    · have hf := (if_pos c3).symm.trans hf
      refine lv_aload_n hx hb dX8_days_26 rfl (lv_at hl 0 rfl) ?_
      refine Pg_7 S hinX8 hK hP f57 dX8_days_27 ?_
      obtain ⟨r4, hr4, hf⟩ := bi_some hf
      refine kz_v (ci := 4) (q0 := 0) (n := 0) S hRf hRl hK hA hZ hP hD hS hl [3, 4, 5, 6, 7] [] [] (kL_today l D uL cI cB cR cM cJ t σL r4 hr4) pw_cL rfl rfl gX8_days_X5_today rfl (by decide +kernel) rfl ⟨by decide, by decide⟩ rfl rfl rfl rfl (Nat.le_of_ble_eq_true rfl) dX8_days_30 (fun H locs hP hD hS => ?_)
      rw [pw_kL] at hP hD
      refine W.eq (g2 := F0 m 33 ls [.int r4]) rfl ?_
      refine lv_iload_n hx hb dX8_days_33 rfl (lv_at hl 1 rfl) ?_
      refine lv_iadd hx hb dX8_days_34 ?_
      refine lv_sipush (v := 9999) hx hb dX8_days_35 (by decide) ?_
      refine lv_icmp_le (tgt := 44) hx hb dX8_days_38 (by decide) (fun c5 => ?_) (fun c5 => ?_)
      · have hf := (if_pos c5).symm.trans hf
        refine lv_aload_n hx hb dX8_days_44 rfl (lv_at hl 0 rfl) ?_
        refine Pg_4 S hinX8 hK hP f38 dX8_days_45 ?_
        refine lv_aload_n hx hb dX8_days_48 rfl (lv_at hl 0 rfl) ?_
        refine Pg_7 S hinX8 hK hP f57 dX8_days_49 ?_
        refine Lg_3 S hinX5 hK hP 3 rfl f169 dX8_days_52 ?_
        obtain ⟨τ7, hr6, hf⟩ := bi_some hf
        refine kz_v (ci := 0) (q0 := 0) (n := 1) S hRf hRl hK hA hZ hP hD hS hl [21, 22, 23, 24, 25, 26, 27, 28, 29, 30, 31, 32, 33, 34, 35, 36, 37, 38, 39, 40, 41, 42, 43, 44, 45, 46, 7] [.ref (uL 4)] [] (kK_keep l D uK (fun _ => uL 4) cI cB cR cM cJ t σK (vOf σL 3) τ7 hr6) pw_cKV rfl rfl gX8_days_X0_keep rfl (by decide +kernel) rfl ⟨by decide, by decide⟩ rfl rfl rfl rfl (Nat.le_of_ble_eq_true rfl) dX8_days_55 (fun H locs hP hD hS => ?_)
        rw [pw_kKV] at hP hD
        rw [setR_vOf] at hP hD
        refine W.eq (g2 := F0 m 58 ls []) rfl ?_
        refine lv_iconst (v := 0) hx hb dX8_days_58 (by decide) ?_
        refine lv_istore_n (lv' := [(2, .int 0), (0, .ref (uP 0)), (1, .int a1)]) hx hb dX8_days_59 rfl hl (by decide) rfl (fun ls hl => ?_)
        refine lv_iconst (v := 0) hx hb dX8_days_60 (by decide) ?_
        refine lv_istore_n (lv' := [(3, .int 0), (2, .int 0), (0, .ref (uP 0)), (1, .int a1)]) hx hb dX8_days_61 rfl hl (by decide) rfl (fun ls hl => ?_)
        exact b62 fuelN _ _ _ _ _ _ _ _ hf (lv_sub hl [2, 3, 1, 0] rfl) hP hD hS
      · have hf := (if_neg c5).symm.trans hf
        refine lv_ldc (v := (-1000003)) hx hb hown c128 dX8_days_41 ?_
        exact hre _ _ _ _ _ _ _ hf hP hD hS dX8_days_43
    · have hf := (if_neg c3).symm.trans hf
      refine lv_ldc (v := (-1000001)) hx hb hown c80 dX8_days_23 ?_
      exact hre _ _ _ _ _ _ _ hf hP hD hS dX8_days_25
  · have hf := (if_pos c1).symm.trans hf
    refine lv_ldc (v := (-1000002)) hx hb hown c168 dX8_days_10 ?_
    exact hre _ _ _ _ _ _ _ hf hP hD hS dX8_days_12
def FP_flood (σL : MS) (σK : MS) (a1 : Int32) : Option (Int32 × MS × MS) :=
  if (σL.1 4) = 0 then (some ((-1000002), σL, σK)) else (Option.bind (FP_outside a1 1 999999) fun (r2 : Int32) => if r2 = 0 then (Option.bind (FK_keep σK (vOf σL 3)) fun (τ5 : MS) => bd2 (FL_holdUp σL a1) fun (r6 : Int32) (τ7 : MS) => some (r6, τ7, τ5)) else (some ((-1000001), σL, σK)))
set_option maxHeartbeats 4000000 in
set_option maxRecDepth 100000 in
theorem kP_flood (l : Launch) (D : va_G) (uP uL uG uR uT uC uA uK : Nat → Nat) (uW uI : Nat → Nat → Nat) (cI cB cR cM cJ : ClassId) (t : Nat → Nat) (σP σL σG σR σT σC σA σK : MS) (ω ι : Nat → MS) (a1 : Int32) (r : Int32) (σL' : MS) (σK' : MS) (hf : FP_flood σL σK a1 = some (r, σL', σK')) : KZ l D (ctys cI cB cR cM cJ) t yX8_flood wsX8_flood 3 81 [.ref (uP 0), .int a1] (pw uP uL uG uR uT uC uA uK uW uI cI cB cR cM cJ σP σL σG σR σT σC σA σK ω ι) (some (.int r)) (pw uP uL uG uR uT uC uA uK uW uI cI cB cR cM cJ σP σL' σG σR σT σC σA σK' ω ι) := by
  refine KZ.ofI (own := RX8) (cc := cX8_flood) (maxL := 2) (by decide) rfl rfl (Nat.le_of_ble_eq_true rfl) ?_
  intro p e s m args below meth c R Q A ls S hRf hRl hK hA hP hD hS hl hZ hret
  obtain ⟨hx, hb, hml, hown, hts⟩ := id S
  have f57 := hts (.fieldLink RX8 57 "PenniesAway" "kingdom" "LPenniesAway$Realm;") (by decide +kernel)
  have hinX8 : ∀ w ∈ wsX80, w ∈ wsX8_flood := fun w hw => List.mem_cons_of_mem _ (List.mem_append_left _ (List.mem_append_left _ (List.mem_append_right _ hw)))
  have f185 := hts (.fieldLink RX8 185 "PenniesAway$Realm" "told" "Z") (by decide +kernel)
  have hinX5 : ∀ w ∈ wsX50, w ∈ wsX8_flood := fun w hw => List.mem_cons_of_mem _ (List.mem_append_left _ (List.mem_append_right _ hw))
  have c196 := hts (.constant RX8 196 (999999)) (by decide +kernel)
  have f38 := hts (.fieldLink RX8 38 "PenniesAway" "acts" "LPenniesAway$Acts;") (by decide +kernel)
  have f169 := hts (.fieldLink RX8 169 "PenniesAway$Realm" "changing" "[I") (by decide +kernel)
  have c80 := hts (.constant RX8 80 (-1000001)) (by decide +kernel)
  have c168 := hts (.constant RX8 168 (-1000002)) (by decide +kernel)
  have hl : lv_has ls 2 [(0, .ref (uP 0)), (1, .int a1)] := hl
  have hre : ∀ (x : Int32) (τL : MS) (τK : MS) (pc : Nat) (ls : Array Slot) (H : Heap) (locs : List Loc), (some (x, τL, τK) : Option (Int32 × MS × MS)) = some (r, σL', σK') → va_P D vwCl (pw uP uL uG uR uT uC uA uK uW uI cI cB cR cM cJ σP τL σG σR σT σC σA τK ω ι) H → va_D A (pw uP uL uG uR uT uC uA uK uW uI cI cB cR cM cJ σP τL σG σR σT σC σA τK ω ι) → va_S A s.heap H locs → decode cX8_flood pc = .ok (.ireturn, 1) → W p l e R s m args below meth c H locs 0 0 Q (F0 m pc ls [.int x]) := by intro x τL τK pc ls H locs he; cases he; exact hret pc ls H locs
  unfold FP_flood at hf
  refine lv_aload_n hx hb dX8_flood_0 rfl (lv_at hl 0 rfl) ?_
  refine Pg_7 S hinX8 hK hP f57 dX8_flood_1 ?_
  refine Lg_4 S hinX5 hK hP 3 rfl f185 dX8_flood_4 ?_
  refine lv_if_ne (tgt := 13) hx hb dX8_flood_7 (by decide) (fun c1 => ?_) (fun c1 => ?_)
  · have hf := (if_neg c1).symm.trans hf
    refine lv_iload_n hx hb dX8_flood_13 rfl (lv_at hl 1 rfl) ?_
    refine lv_iconst (v := 1) hx hb dX8_flood_14 (by decide) ?_
    refine lv_ldc (v := 999999) hx hb hown c196 dX8_flood_15 ?_
    obtain ⟨r2, hr2, hf⟩ := bi_some hf
    refine kz_s (n := 3) S hRf hRl hK hA hZ hP hD hS hl [] [.int a1, .int 1, .int 999999] [] (kP_outside l D cI cB cR cM cJ t [] a1 1 999999 r2 hr2) rfl rfl rfl gX8_flood_X8_outside rfl (by decide +kernel) rfl ⟨by decide, by decide⟩ rfl (Nat.le_of_ble_eq_true rfl) dX8_flood_17 (fun H locs hP hD hS => ?_)
    replace hP : va_P D vwCl (pw uP uL uG uR uT uC uA uK uW uI cI cB cR cM cJ σP σL σG σR σT σC σA σK ω ι) H := hP
    replace hD : va_D A (pw uP uL uG uR uT uC uA uK uW uI cI cB cR cM cJ σP σL σG σR σT σC σA σK ω ι) := hD
    refine W.eq (g2 := F0 m 20 ls [.int r2]) rfl ?_
    refine lv_if_eq (tgt := 26) hx hb dX8_flood_20 (by decide) (fun c3 => ?_) (fun c3 => ?_)
    · have hf := (if_pos c3).symm.trans hf
      refine lv_aload_n hx hb dX8_flood_26 rfl (lv_at hl 0 rfl) ?_
      refine Pg_4 S hinX8 hK hP f38 dX8_flood_27 ?_
      refine lv_aload_n hx hb dX8_flood_30 rfl (lv_at hl 0 rfl) ?_
      refine Pg_7 S hinX8 hK hP f57 dX8_flood_31 ?_
      refine Lg_3 S hinX5 hK hP 3 rfl f169 dX8_flood_34 ?_
      obtain ⟨τ5, hr4, hf⟩ := bi_some hf
      refine kz_v (ci := 0) (q0 := 0) (n := 1) S hRf hRl hK hA hZ hP hD hS hl [21, 22, 23, 24, 25, 26, 27, 28, 29, 30, 31, 32, 33, 34, 35, 36, 37, 38, 39, 40, 41, 42, 43, 44, 45, 46, 7] [.ref (uL 4)] [] (kK_keep l D uK (fun _ => uL 4) cI cB cR cM cJ t σK (vOf σL 3) τ5 hr4) pw_cKV rfl rfl gX8_flood_X0_keep rfl (by decide +kernel) rfl ⟨by decide, by decide⟩ rfl rfl rfl rfl (Nat.le_of_ble_eq_true rfl) dX8_flood_37 (fun H locs hP hD hS => ?_)
      rw [pw_kKV] at hP hD
      rw [setR_vOf] at hP hD
      refine W.eq (g2 := F0 m 40 ls []) rfl ?_
      refine lv_aload_n hx hb dX8_flood_40 rfl (lv_at hl 0 rfl) ?_
      refine Pg_7 S hinX8 hK hP f57 dX8_flood_41 ?_
      refine lv_iload_n hx hb dX8_flood_44 rfl (lv_at hl 1 rfl) ?_
      obtain ⟨r6, τ7, hr6, hf⟩ := bd2_some hf
      refine kz_v (ci := 4) (q0 := 0) (n := 1) S hRf hRl hK hA hZ hP hD hS hl [3, 4, 5, 6, 7] [.int a1] [] (kL_holdUp l D uL cI cB cR cM cJ t σL a1 r6 τ7 hr6) pw_cL rfl rfl gX8_flood_X5_holdUp rfl (by decide +kernel) rfl ⟨by decide, by decide⟩ rfl rfl rfl rfl (Nat.le_of_ble_eq_true rfl) dX8_flood_45 (fun H locs hP hD hS => ?_)
      rw [pw_kL] at hP hD
      refine W.eq (g2 := F0 m 48 ls [.int r6]) rfl ?_
      exact hre _ _ _ _ _ _ _ hf hP hD hS dX8_flood_48
    · have hf := (if_neg c3).symm.trans hf
      refine lv_ldc (v := (-1000001)) hx hb hown c80 dX8_flood_23 ?_
      exact hre _ _ _ _ _ _ _ hf hP hD hS dX8_flood_25
  · have hf := (if_pos c1).symm.trans hf
    refine lv_ldc (v := (-1000002)) hx hb hown c168 dX8_flood_10 ?_
    exact hre _ _ _ _ _ _ _ hf hP hD hS dX8_flood_12
def FP_undo (σL : MS) (σK : MS) : Option (Int32 × MS × MS) :=
  if (σK.1 2) = 0 then (some ((-1000002), σL, σK)) else (bd2 (FK_takeBack σK (vOf σL 3)) fun (τ3 : MS) (τ4 : MS) => nm (setR σL 3 (τ4.2 0)) fun (σ5 : MS) => some ((τ3.1 2), σ5, τ3))
set_option maxHeartbeats 4000000 in
set_option maxRecDepth 100000 in
theorem kP_undo (l : Launch) (D : va_G) (uP uL uG uR uT uC uA uK : Nat → Nat) (uW uI : Nat → Nat → Nat) (cI cB cR cM cJ : ClassId) (t : Nat → Nat) (σP σL σG σR σT σC σA σK : MS) (ω ι : Nat → MS) (r : Int32) (σL' : MS) (σK' : MS) (hf : FP_undo σL σK = some (r, σL', σK')) : KZ l D (ctys cI cB cR cM cJ) t yX8_undo wsX8_undo 2 81 [.ref (uP 0)] (pw uP uL uG uR uT uC uA uK uW uI cI cB cR cM cJ σP σL σG σR σT σC σA σK ω ι) (some (.int r)) (pw uP uL uG uR uT uC uA uK uW uI cI cB cR cM cJ σP σL' σG σR σT σC σA σK' ω ι) := by
  refine KZ.ofI (own := RX8) (cc := cX8_undo) (maxL := 1) (by decide) rfl rfl (Nat.le_of_ble_eq_true rfl) ?_
  intro p e s m args below meth c R Q A ls S hRf hRl hK hA hP hD hS hl hZ hret
  obtain ⟨hx, hb, hml, hown, hts⟩ := id S
  have f38 := hts (.fieldLink RX8 38 "PenniesAway" "acts" "LPenniesAway$Acts;") (by decide +kernel)
  have hinX8 : ∀ w ∈ wsX80, w ∈ wsX8_undo := fun w hw => List.mem_cons_of_mem _ (List.mem_append_left _ (List.mem_append_left _ (List.mem_append_right _ hw)))
  have f200 := hts (.fieldLink RX8 200 "PenniesAway$Acts" "kept" "I") (by decide +kernel)
  have hinX0 : ∀ w ∈ wsX00, w ∈ wsX8_undo := fun w hw => List.mem_cons_of_mem _ (List.mem_append_left _ (List.mem_append_right _ hw))
  have f57 := hts (.fieldLink RX8 57 "PenniesAway" "kingdom" "LPenniesAway$Realm;") (by decide +kernel)
  have f169 := hts (.fieldLink RX8 169 "PenniesAway$Realm" "changing" "[I") (by decide +kernel)
  have hinX5 : ∀ w ∈ wsX50, w ∈ wsX8_undo := fun w hw => List.mem_cons_of_mem _ (List.mem_append_right _ hw)
  have c168 := hts (.constant RX8 168 (-1000002)) (by decide +kernel)
  have hl : lv_has ls 1 [(0, .ref (uP 0))] := hl
  have hre : ∀ (x : Int32) (τL : MS) (τK : MS) (pc : Nat) (ls : Array Slot) (H : Heap) (locs : List Loc), (some (x, τL, τK) : Option (Int32 × MS × MS)) = some (r, σL', σK') → va_P D vwCl (pw uP uL uG uR uT uC uA uK uW uI cI cB cR cM cJ σP τL σG σR σT σC σA τK ω ι) H → va_D A (pw uP uL uG uR uT uC uA uK uW uI cI cB cR cM cJ σP τL σG σR σT σC σA τK ω ι) → va_S A s.heap H locs → decode cX8_undo pc = .ok (.ireturn, 1) → W p l e R s m args below meth c H locs 0 0 Q (F0 m pc ls [.int x]) := by intro x τL τK pc ls H locs he; cases he; exact hret pc ls H locs
  unfold FP_undo at hf
  refine lv_aload_n hx hb dX8_undo_0 rfl (lv_at hl 0 rfl) ?_
  refine Pg_4 S hinX8 hK hP f38 dX8_undo_1 ?_
  refine Kg_2 S hinX0 hK hP 21 rfl f200 dX8_undo_4 ?_
  refine lv_if_ne (tgt := 13) hx hb dX8_undo_7 (by decide) (fun c1 => ?_) (fun c1 => ?_)
  · have hf := (if_neg c1).symm.trans hf
    refine lv_aload_n hx hb dX8_undo_13 rfl (lv_at hl 0 rfl) ?_
    refine Pg_4 S hinX8 hK hP f38 dX8_undo_14 ?_
    refine lv_aload_n hx hb dX8_undo_17 rfl (lv_at hl 0 rfl) ?_
    refine Pg_7 S hinX8 hK hP f57 dX8_undo_18 ?_
    refine Lg_3 S hinX5 hK hP 3 rfl f169 dX8_undo_21 ?_
    obtain ⟨τ3, τ4, hr2, hf⟩ := bd2_some hf
    refine kz_v (ci := 0) (q0 := 0) (n := 1) S hRf hRl hK hA hZ hP hD hS hl [21, 22, 23, 24, 25, 26, 27, 28, 29, 30, 31, 32, 33, 34, 35, 36, 37, 38, 39, 40, 41, 42, 43, 44, 45, 46, 7] [.ref (uL 4)] [] (kK_takeBack l D uK (fun _ => uL 4) cI cB cR cM cJ t σK (vOf σL 3) τ3 τ4 hr2) pw_cKV rfl rfl gX8_undo_X0_takeBack rfl (by decide +kernel) rfl ⟨by decide, by decide⟩ rfl rfl rfl rfl (Nat.le_of_ble_eq_true rfl) dX8_undo_24 (fun H locs hP hD hS => ?_)
    rw [pw_kKV] at hP hD
    obtain ⟨σ5, eσ5, hf⟩ := nm_some hf
    rw [← eσ5] at hP hD
    refine W.eq (g2 := F0 m 27 ls []) rfl ?_
    refine lv_aload_n hx hb dX8_undo_27 rfl (lv_at hl 0 rfl) ?_
    refine Pg_4 S hinX8 hK hP f38 dX8_undo_28 ?_
    refine Kg_2 S hinX0 hK hP 21 rfl f200 dX8_undo_31 ?_
    exact hre _ _ _ _ _ _ _ hf hP hD hS dX8_undo_34
  · have hf := (if_pos c1).symm.trans hf
    refine lv_ldc (v := (-1000002)) hx hb hown c168 dX8_undo_10 ?_
    exact hre _ _ _ _ _ _ _ hf hP hD hS dX8_undo_12
def FP_coin (σL : MS) (a1 : Int32) (a2 : Int32) : Option Int32 :=
  Option.bind (FP_noCoin σL a1) fun (r1 : Int32) => if r1 = 0 then (Option.bind (FP_outside a2 0 7) fun (r3 : Int32) => if r3 = 0 then (if Int32.toInt a2 < 5 ∨ 7 < Int32.toInt a2 then (Option.bind (FL_about σL a1 a2) fun (r6 : Int32) => some (r6)) else (if a2 = 5 then (Option.bind (FL_spanOf σL a1) fun (r9 : Int32) => some (r9)) else (if a2 = 6 then (Option.bind (FL_slackOf σL a1) fun (r8 : Int32) => some (r8)) else (if a2 = 7 then (Option.bind (FL_worthOf σL a1) fun (r7 : Int32) => some (r7)) else (none))))) else (some ((-1000001)))) else (some ((-1000001)))
set_option maxHeartbeats 4000000 in
set_option maxRecDepth 100000 in
theorem kP_coin (l : Launch) (D : va_G) (uP uL uG uR uT uC uA uK : Nat → Nat) (uW uI : Nat → Nat → Nat) (cI cB cR cM cJ : ClassId) (t : Nat → Nat) (σP σL σG σR σT σC σA σK : MS) (ω ι : Nat → MS) (a1 : Int32) (a2 : Int32) (r : Int32) (hf : FP_coin σL a1 a2 = some (r)) : KZ l D (ctys cI cB cR cM cJ) t yX8_coin wsX8_coin 5 111 [.ref (uP 0), .int a1, .int a2] (pw uP uL uG uR uT uC uA uK uW uI cI cB cR cM cJ σP σL σG σR σT σC σA σK ω ι) (some (.int r)) (pw uP uL uG uR uT uC uA uK uW uI cI cB cR cM cJ σP σL σG σR σT σC σA σK ω ι) := by
  refine KZ.ofI (own := RX8) (cc := cX8_coin) (maxL := 3) (by decide) rfl rfl (Nat.le_of_ble_eq_true rfl) ?_
  intro p e s m args below meth c R Q A ls S hRf hRl hK hA hP hD hS hl hZ hret
  obtain ⟨hx, hb, hml, hown, hts⟩ := id S
  have c80 := hts (.constant RX8 80 (-1000001)) (by decide +kernel)
  have f57 := hts (.fieldLink RX8 57 "PenniesAway" "kingdom" "LPenniesAway$Realm;") (by decide +kernel)
  have hinX8 : ∀ w ∈ wsX80, w ∈ wsX8_coin := fun w hw => List.mem_cons_of_mem _ (List.mem_append_left _ (List.mem_append_right _ hw))
  have hl : lv_has ls 3 [(0, .ref (uP 0)), (1, .int a1), (2, .int a2)] := hl
  have hre : ∀ (x : Int32) (pc : Nat) (ls : Array Slot) (H : Heap) (locs : List Loc), (some (x) : Option Int32) = some (r) → va_P D vwCl (pw uP uL uG uR uT uC uA uK uW uI cI cB cR cM cJ σP σL σG σR σT σC σA σK ω ι) H → va_D A (pw uP uL uG uR uT uC uA uK uW uI cI cB cR cM cJ σP σL σG σR σT σC σA σK ω ι) → va_S A s.heap H locs → decode cX8_coin pc = .ok (.ireturn, 1) → W p l e R s m args below meth c H locs 0 0 Q (F0 m pc ls [.int x]) := by intro x pc ls H locs he; cases he; exact hret pc ls H locs
  unfold FP_coin at hf
  refine lv_aload_n hx hb dX8_coin_0 rfl (lv_at hl 0 rfl) ?_
  refine lv_iload_n hx hb dX8_coin_1 rfl (lv_at hl 1 rfl) ?_
  obtain ⟨r1, hr1, hf⟩ := bi_some hf
  refine kz_w (ci := 7) (q0 := 0) (n := 1) S hRf hRl hK hA hZ hP hD hS hl [.int a1] [] (kP_noCoin l D uP uL uG uR uT uC uA uK uW uI cI cB cR cM cJ t σP σL σG σR σT σC σA σK ω ι a1 r1 hr1) gX8_coin_X8_noCoin rfl (by decide +kernel) rfl ⟨by decide, by decide⟩ rfl rfl rfl rfl (Nat.le_of_ble_eq_true rfl) dX8_coin_2 (fun H locs hP hD hS => ?_)
  refine W.eq (g2 := F0 m 5 ls [.int r1]) rfl ?_
  refine lv_if_ne (tgt := 18) hx hb dX8_coin_5 (by decide) (fun c2 => ?_) (fun c2 => ?_)
  · have hf := (if_neg c2).symm.trans hf
    refine lv_ldc (v := (-1000001)) hx hb hown c80 dX8_coin_18 ?_
    exact hre _ _ _ _ _ hf hP hD hS dX8_coin_20
  · have hf := (if_pos c2).symm.trans hf
    refine lv_iload_n hx hb dX8_coin_8 rfl (lv_at hl 2 rfl) ?_
    refine lv_iconst (v := 0) hx hb dX8_coin_9 (by decide) ?_
    refine lv_bipush (v := 7) hx hb dX8_coin_10 (by decide) ?_
    obtain ⟨r3, hr3, hf⟩ := bi_some hf
    refine kz_s (n := 3) S hRf hRl hK hA hZ hP hD hS hl [] [.int a2, .int 0, .int 7] [] (kP_outside l D cI cB cR cM cJ t [] a2 0 7 r3 hr3) rfl rfl rfl gX8_coin_X8_outside rfl (by decide +kernel) rfl ⟨by decide, by decide⟩ rfl (Nat.le_of_ble_eq_true rfl) dX8_coin_12 (fun H locs hP hD hS => ?_)
    replace hP : va_P D vwCl (pw uP uL uG uR uT uC uA uK uW uI cI cB cR cM cJ σP σL σG σR σT σC σA σK ω ι) H := hP
    replace hD : va_D A (pw uP uL uG uR uT uC uA uK uW uI cI cB cR cM cJ σP σL σG σR σT σC σA σK ω ι) := hD
    refine W.eq (g2 := F0 m 15 ls [.int r3]) rfl ?_
    refine lv_if_eq (tgt := 21) hx hb dX8_coin_15 (by decide) (fun c4 => ?_) (fun c4 => ?_)
    · have hf := (if_pos c4).symm.trans hf
      refine lv_iload_n hx hb dX8_coin_21 rfl (lv_at hl 2 rfl) ?_
      by_cases c5 : Int32.toInt a2 < 5 ∨ 7 < Int32.toInt a2
      · have hf := (if_pos c5).symm.trans hf
        refine lv_tableOut (tgt := 75) hx hb dX8_coin_22 c5 (by decide) ?_
        refine lv_aload_n hx hb dX8_coin_75 rfl (lv_at hl 0 rfl) ?_
        refine Pg_7 S hinX8 hK hP f57 dX8_coin_76 ?_
        refine lv_iload_n hx hb dX8_coin_79 rfl (lv_at hl 1 rfl) ?_
        refine lv_iload_n hx hb dX8_coin_80 rfl (lv_at hl 2 rfl) ?_
        obtain ⟨r6, hr6, hf⟩ := bi_some hf
        refine kz_v (ci := 4) (q0 := 0) (n := 2) S hRf hRl hK hA hZ hP hD hS hl [3, 4, 5, 6, 7] [.int a1, .int a2] [] (kL_about l D uL cI cB cR cM cJ t σL a1 a2 r6 hr6) pw_cL rfl rfl gX8_coin_X5_about rfl (by decide +kernel) rfl ⟨by decide, by decide⟩ rfl rfl rfl rfl (Nat.le_of_ble_eq_true rfl) dX8_coin_81 (fun H locs hP hD hS => ?_)
        rw [pw_kL] at hP hD
        refine W.eq (g2 := F0 m 84 ls [.int r6]) rfl ?_
        exact hre _ _ _ _ _ hf hP hD hS dX8_coin_84
      · have hf := (if_neg c5).symm.trans hf
        by_cases c5k5 : a2 = 5
        · have hf := (if_pos c5k5).symm.trans hf
          refine lv_tableIn (tgt := 48) hx hb dX8_coin_22 (by rw [c5k5]; decide) (by rw [c5k5]; decide) (by rw [c5k5]; rfl) (by decide) ?_
          refine lv_aload_n hx hb dX8_coin_48 rfl (lv_at hl 0 rfl) ?_
          refine Pg_7 S hinX8 hK hP f57 dX8_coin_49 ?_
          refine lv_iload_n hx hb dX8_coin_52 rfl (lv_at hl 1 rfl) ?_
          obtain ⟨r9, hr9, hf⟩ := bi_some hf
          refine kz_v (ci := 4) (q0 := 0) (n := 1) S hRf hRl hK hA hZ hP hD hS hl [3, 4, 5, 6, 7] [.int a1] [] (kL_spanOf l D uL cI cB cR cM cJ t σL a1 r9 hr9) pw_cL rfl rfl gX8_coin_X5_spanOf rfl (by decide +kernel) rfl ⟨by decide, by decide⟩ rfl rfl rfl rfl (Nat.le_of_ble_eq_true rfl) dX8_coin_53 (fun H locs hP hD hS => ?_)
          rw [pw_kL] at hP hD
          refine W.eq (g2 := F0 m 56 ls [.int r9]) rfl ?_
          exact hre _ _ _ _ _ hf hP hD hS dX8_coin_56
        · have hf := (if_neg c5k5).symm.trans hf
          by_cases c5k6 : a2 = 6
          · have hf := (if_pos c5k6).symm.trans hf
            refine lv_tableIn (tgt := 57) hx hb dX8_coin_22 (by rw [c5k6]; decide) (by rw [c5k6]; decide) (by rw [c5k6]; rfl) (by decide) ?_
            refine lv_aload_n hx hb dX8_coin_57 rfl (lv_at hl 0 rfl) ?_
            refine Pg_7 S hinX8 hK hP f57 dX8_coin_58 ?_
            refine lv_iload_n hx hb dX8_coin_61 rfl (lv_at hl 1 rfl) ?_
            obtain ⟨r8, hr8, hf⟩ := bi_some hf
            refine kz_v (ci := 4) (q0 := 0) (n := 1) S hRf hRl hK hA hZ hP hD hS hl [3, 4, 5, 6, 7] [.int a1] [] (kL_slackOf l D uL cI cB cR cM cJ t σL a1 r8 hr8) pw_cL rfl rfl gX8_coin_X5_slackOf rfl (by decide +kernel) rfl ⟨by decide, by decide⟩ rfl rfl rfl rfl (Nat.le_of_ble_eq_true rfl) dX8_coin_62 (fun H locs hP hD hS => ?_)
            rw [pw_kL] at hP hD
            refine W.eq (g2 := F0 m 65 ls [.int r8]) rfl ?_
            exact hre _ _ _ _ _ hf hP hD hS dX8_coin_65
          · have hf := (if_neg c5k6).symm.trans hf
            by_cases c5k7 : a2 = 7
            · have hf := (if_pos c5k7).symm.trans hf
              refine lv_tableIn (tgt := 66) hx hb dX8_coin_22 (by rw [c5k7]; decide) (by rw [c5k7]; decide) (by rw [c5k7]; rfl) (by decide) ?_
              refine lv_aload_n hx hb dX8_coin_66 rfl (lv_at hl 0 rfl) ?_
              refine Pg_7 S hinX8 hK hP f57 dX8_coin_67 ?_
              refine lv_iload_n hx hb dX8_coin_70 rfl (lv_at hl 1 rfl) ?_
              obtain ⟨r7, hr7, hf⟩ := bi_some hf
              refine kz_v (ci := 4) (q0 := 0) (n := 1) S hRf hRl hK hA hZ hP hD hS hl [3, 4, 5, 6, 7] [.int a1] [] (kL_worthOf l D uL cI cB cR cM cJ t σL a1 r7 hr7) pw_cL rfl rfl gX8_coin_X5_worthOf rfl (by decide +kernel) rfl ⟨by decide, by decide⟩ rfl rfl rfl rfl (Nat.le_of_ble_eq_true rfl) dX8_coin_71 (fun H locs hP hD hS => ?_)
              rw [pw_kL] at hP hD
              refine W.eq (g2 := F0 m 74 ls [.int r7]) rfl ?_
              exact hre _ _ _ _ _ hf hP hD hS dX8_coin_74
            · have hf := (if_neg c5k7).symm.trans hf
              exact absurd hf (by simp)
    · have hf := (if_neg c4).symm.trans hf
      refine lv_ldc (v := (-1000001)) hx hb hown c80 dX8_coin_18 ?_
      exact hre _ _ _ _ _ hf hP hD hS dX8_coin_20
def FP_far (σL : MS) (a1 : Int32) (a2 : Int32) : Option Int32 :=
  if (σL.1 4) = 0 then (some ((-1000002))) else (Option.bind (FP_outside a1 0 7) fun (r2 : Int32) => if r2 = 0 then (Option.bind (FP_outside a2 0 7) fun (r4 : Int32) => if r4 = 0 then (Option.bind (FL_distance σL a1 a2) fun (r6 : Int32) => some (r6)) else (some ((-1000001)))) else (some ((-1000001))))
set_option maxHeartbeats 4000000 in
set_option maxRecDepth 100000 in
theorem kP_far (l : Launch) (D : va_G) (uP uL uG uR uT uC uA uK : Nat → Nat) (uW uI : Nat → Nat → Nat) (cI cB cR cM cJ : ClassId) (t : Nat → Nat) (σP σL σG σR σT σC σA σK : MS) (ω ι : Nat → MS) (a1 : Int32) (a2 : Int32) (r : Int32) (hf : FP_far σL a1 a2 = some (r)) : KZ l D (ctys cI cB cR cM cJ) t yX8_far wsX8_far 1 23 [.ref (uP 0), .int a1, .int a2] (pw uP uL uG uR uT uC uA uK uW uI cI cB cR cM cJ σP σL σG σR σT σC σA σK ω ι) (some (.int r)) (pw uP uL uG uR uT uC uA uK uW uI cI cB cR cM cJ σP σL σG σR σT σC σA σK ω ι) := by
  refine KZ.ofI (own := RX8) (cc := cX8_far) (maxL := 3) (by decide) rfl rfl (Nat.le_of_ble_eq_true rfl) ?_
  intro p e s m args below meth c R Q A ls S hRf hRl hK hA hP hD hS hl hZ hret
  obtain ⟨hx, hb, hml, hown, hts⟩ := id S
  have f57 := hts (.fieldLink RX8 57 "PenniesAway" "kingdom" "LPenniesAway$Realm;") (by decide +kernel)
  have hinX8 : ∀ w ∈ wsX80, w ∈ wsX8_far := fun w hw => List.mem_cons_of_mem _ (List.mem_append_left _ (List.mem_append_right _ hw))
  have f185 := hts (.fieldLink RX8 185 "PenniesAway$Realm" "told" "Z") (by decide +kernel)
  have hinX5 : ∀ w ∈ wsX50, w ∈ wsX8_far := fun w hw => List.mem_cons_of_mem _ (List.mem_append_right _ hw)
  have c80 := hts (.constant RX8 80 (-1000001)) (by decide +kernel)
  have c168 := hts (.constant RX8 168 (-1000002)) (by decide +kernel)
  have hl : lv_has ls 3 [(0, .ref (uP 0)), (1, .int a1), (2, .int a2)] := hl
  have hre : ∀ (x : Int32) (pc : Nat) (ls : Array Slot) (H : Heap) (locs : List Loc), (some (x) : Option Int32) = some (r) → va_P D vwCl (pw uP uL uG uR uT uC uA uK uW uI cI cB cR cM cJ σP σL σG σR σT σC σA σK ω ι) H → va_D A (pw uP uL uG uR uT uC uA uK uW uI cI cB cR cM cJ σP σL σG σR σT σC σA σK ω ι) → va_S A s.heap H locs → decode cX8_far pc = .ok (.ireturn, 1) → W p l e R s m args below meth c H locs 0 0 Q (F0 m pc ls [.int x]) := by intro x pc ls H locs he; cases he; exact hret pc ls H locs
  unfold FP_far at hf
  refine lv_aload_n hx hb dX8_far_0 rfl (lv_at hl 0 rfl) ?_
  refine Pg_7 S hinX8 hK hP f57 dX8_far_1 ?_
  refine Lg_4 S hinX5 hK hP 3 rfl f185 dX8_far_4 ?_
  refine lv_if_ne (tgt := 13) hx hb dX8_far_7 (by decide) (fun c1 => ?_) (fun c1 => ?_)
  · have hf := (if_neg c1).symm.trans hf
    refine lv_iload_n hx hb dX8_far_13 rfl (lv_at hl 1 rfl) ?_
    refine lv_iconst (v := 0) hx hb dX8_far_14 (by decide) ?_
    refine lv_bipush (v := 7) hx hb dX8_far_15 (by decide) ?_
    obtain ⟨r2, hr2, hf⟩ := bi_some hf
    refine kz_s (n := 3) S hRf hRl hK hA hZ hP hD hS hl [] [.int a1, .int 0, .int 7] [] (kP_outside l D cI cB cR cM cJ t [] a1 0 7 r2 hr2) rfl rfl rfl gX8_far_X8_outside rfl (by decide +kernel) rfl ⟨by decide, by decide⟩ rfl (Nat.le_of_ble_eq_true rfl) dX8_far_17 (fun H locs hP hD hS => ?_)
    replace hP : va_P D vwCl (pw uP uL uG uR uT uC uA uK uW uI cI cB cR cM cJ σP σL σG σR σT σC σA σK ω ι) H := hP
    replace hD : va_D A (pw uP uL uG uR uT uC uA uK uW uI cI cB cR cM cJ σP σL σG σR σT σC σA σK ω ι) := hD
    refine W.eq (g2 := F0 m 20 ls [.int r2]) rfl ?_
    refine lv_if_ne (tgt := 33) hx hb dX8_far_20 (by decide) (fun c3 => ?_) (fun c3 => ?_)
    · have hf := (if_neg c3).symm.trans hf
      refine lv_ldc (v := (-1000001)) hx hb hown c80 dX8_far_33 ?_
      exact hre _ _ _ _ _ hf hP hD hS dX8_far_35
    · have hf := (if_pos c3).symm.trans hf
      refine lv_iload_n hx hb dX8_far_23 rfl (lv_at hl 2 rfl) ?_
      refine lv_iconst (v := 0) hx hb dX8_far_24 (by decide) ?_
      refine lv_bipush (v := 7) hx hb dX8_far_25 (by decide) ?_
      obtain ⟨r4, hr4, hf⟩ := bi_some hf
      refine kz_s (n := 3) S hRf hRl hK hA hZ hP hD hS hl [] [.int a2, .int 0, .int 7] [] (kP_outside l D cI cB cR cM cJ t [] a2 0 7 r4 hr4) rfl rfl rfl gX8_far_X8_outside rfl (by decide +kernel) rfl ⟨by decide, by decide⟩ rfl (Nat.le_of_ble_eq_true rfl) dX8_far_27 (fun H locs hP hD hS => ?_)
      replace hP : va_P D vwCl (pw uP uL uG uR uT uC uA uK uW uI cI cB cR cM cJ σP σL σG σR σT σC σA σK ω ι) H := hP
      replace hD : va_D A (pw uP uL uG uR uT uC uA uK uW uI cI cB cR cM cJ σP σL σG σR σT σC σA σK ω ι) := hD
      refine W.eq (g2 := F0 m 30 ls [.int r4]) rfl ?_
      refine lv_if_eq (tgt := 36) hx hb dX8_far_30 (by decide) (fun c5 => ?_) (fun c5 => ?_)
      · have hf := (if_pos c5).symm.trans hf
        refine lv_aload_n hx hb dX8_far_36 rfl (lv_at hl 0 rfl) ?_
        refine Pg_7 S hinX8 hK hP f57 dX8_far_37 ?_
        refine lv_iload_n hx hb dX8_far_40 rfl (lv_at hl 1 rfl) ?_
        refine lv_iload_n hx hb dX8_far_41 rfl (lv_at hl 2 rfl) ?_
        obtain ⟨r6, hr6, hf⟩ := bi_some hf
        refine kz_v (ci := 4) (q0 := 0) (n := 2) S hRf hRl hK hA hZ hP hD hS hl [3, 4, 5, 6, 7] [.int a1, .int a2] [] (kL_distance l D uL cI cB cR cM cJ t σL a1 a2 r6 hr6) pw_cL rfl rfl gX8_far_X5_distance rfl (by decide +kernel) rfl ⟨by decide, by decide⟩ rfl rfl rfl rfl (Nat.le_of_ble_eq_true rfl) dX8_far_42 (fun H locs hP hD hS => ?_)
        rw [pw_kL] at hP hD
        refine W.eq (g2 := F0 m 45 ls [.int r6]) rfl ?_
        exact hre _ _ _ _ _ hf hP hD hS dX8_far_45
      · have hf := (if_neg c5).symm.trans hf
        refine lv_ldc (v := (-1000001)) hx hb hown c80 dX8_far_33 ?_
        exact hre _ _ _ _ _ hf hP hD hS dX8_far_35
  · have hf := (if_pos c1).symm.trans hf
    refine lv_ldc (v := (-1000002)) hx hb hown c168 dX8_far_10 ?_
    exact hre _ _ _ _ _ hf hP hD hS dX8_far_12
def FP_late (σL : MS) : Option Int32 :=
  if (σL.1 4) = 0 then (some ((-1000002))) else (Option.bind (FL_lateCoins σL) fun (r2 : Int32) => some (r2))
set_option maxHeartbeats 4000000 in
set_option maxRecDepth 100000 in
theorem kP_late (l : Launch) (D : va_G) (uP uL uG uR uT uC uA uK : Nat → Nat) (uW uI : Nat → Nat → Nat) (cI cB cR cM cJ : ClassId) (t : Nat → Nat) (σP σL σG σR σT σC σA σK : MS) (ω ι : Nat → MS) (r : Int32) (hf : FP_late σL = some (r)) : KZ l D (ctys cI cB cR cM cJ) t yX8_late wsX8_late 5 110 [.ref (uP 0)] (pw uP uL uG uR uT uC uA uK uW uI cI cB cR cM cJ σP σL σG σR σT σC σA σK ω ι) (some (.int r)) (pw uP uL uG uR uT uC uA uK uW uI cI cB cR cM cJ σP σL σG σR σT σC σA σK ω ι) := by
  refine KZ.ofI (own := RX8) (cc := cX8_late) (maxL := 1) (by decide) rfl rfl (Nat.le_of_ble_eq_true rfl) ?_
  intro p e s m args below meth c R Q A ls S hRf hRl hK hA hP hD hS hl hZ hret
  obtain ⟨hx, hb, hml, hown, hts⟩ := id S
  have f57 := hts (.fieldLink RX8 57 "PenniesAway" "kingdom" "LPenniesAway$Realm;") (by decide +kernel)
  have hinX8 : ∀ w ∈ wsX80, w ∈ wsX8_late := fun w hw => List.mem_cons_of_mem _ (List.mem_append_left _ (List.mem_append_right _ hw))
  have f185 := hts (.fieldLink RX8 185 "PenniesAway$Realm" "told" "Z") (by decide +kernel)
  have hinX5 : ∀ w ∈ wsX50, w ∈ wsX8_late := fun w hw => List.mem_cons_of_mem _ (List.mem_append_right _ hw)
  have c168 := hts (.constant RX8 168 (-1000002)) (by decide +kernel)
  have hl : lv_has ls 1 [(0, .ref (uP 0))] := hl
  have hre : ∀ (x : Int32) (pc : Nat) (ls : Array Slot) (H : Heap) (locs : List Loc), (some (x) : Option Int32) = some (r) → va_P D vwCl (pw uP uL uG uR uT uC uA uK uW uI cI cB cR cM cJ σP σL σG σR σT σC σA σK ω ι) H → va_D A (pw uP uL uG uR uT uC uA uK uW uI cI cB cR cM cJ σP σL σG σR σT σC σA σK ω ι) → va_S A s.heap H locs → decode cX8_late pc = .ok (.ireturn, 1) → W p l e R s m args below meth c H locs 0 0 Q (F0 m pc ls [.int x]) := by intro x pc ls H locs he; cases he; exact hret pc ls H locs
  unfold FP_late at hf
  refine lv_aload_n hx hb dX8_late_0 rfl (lv_at hl 0 rfl) ?_
  refine Pg_7 S hinX8 hK hP f57 dX8_late_1 ?_
  refine Lg_4 S hinX5 hK hP 3 rfl f185 dX8_late_4 ?_
  refine lv_if_ne (tgt := 13) hx hb dX8_late_7 (by decide) (fun c1 => ?_) (fun c1 => ?_)
  · have hf := (if_neg c1).symm.trans hf
    refine lv_aload_n hx hb dX8_late_13 rfl (lv_at hl 0 rfl) ?_
    refine Pg_7 S hinX8 hK hP f57 dX8_late_14 ?_
    obtain ⟨r2, hr2, hf⟩ := bi_some hf
    refine kz_v (ci := 4) (q0 := 0) (n := 0) S hRf hRl hK hA hZ hP hD hS hl [3, 4, 5, 6, 7] [] [] (kL_lateCoins l D uL cI cB cR cM cJ t σL r2 hr2) pw_cL rfl rfl gX8_late_X5_lateCoins rfl (by decide +kernel) rfl ⟨by decide, by decide⟩ rfl rfl rfl rfl (Nat.le_of_ble_eq_true rfl) dX8_late_17 (fun H locs hP hD hS => ?_)
    rw [pw_kL] at hP hD
    refine W.eq (g2 := F0 m 20 ls [.int r2]) rfl ?_
    exact hre _ _ _ _ _ hf hP hD hS dX8_late_20
  · have hf := (if_pos c1).symm.trans hf
    refine lv_ldc (v := (-1000002)) hx hb hown c168 dX8_late_10 ?_
    exact hre _ _ _ _ _ hf hP hD hS dX8_late_12
def FP_mustGo (σL : MS) (a1 : Int32) : Option Int32 :=
  if (σL.1 4) = 0 then (some ((-1000002))) else (Option.bind (FP_outside a1 1 400) fun (r2 : Int32) => if r2 = 0 then (Option.bind (FL_coinsToGo σL a1) fun (r4 : Int32) => some (r4)) else (some ((-1000001))))
set_option maxHeartbeats 4000000 in
set_option maxRecDepth 100000 in
theorem kP_mustGo (l : Launch) (D : va_G) (uP uL uG uR uT uC uA uK : Nat → Nat) (uW uI : Nat → Nat → Nat) (cI cB cR cM cJ : ClassId) (t : Nat → Nat) (σP σL σG σR σT σC σA σK : MS) (ω ι : Nat → MS) (a1 : Int32) (r : Int32) (hf : FP_mustGo σL a1 = some (r)) : KZ l D (ctys cI cB cR cM cJ) t yX8_mustGo wsX8_mustGo 5 112 [.ref (uP 0), .int a1] (pw uP uL uG uR uT uC uA uK uW uI cI cB cR cM cJ σP σL σG σR σT σC σA σK ω ι) (some (.int r)) (pw uP uL uG uR uT uC uA uK uW uI cI cB cR cM cJ σP σL σG σR σT σC σA σK ω ι) := by
  refine KZ.ofI (own := RX8) (cc := cX8_mustGo) (maxL := 2) (by decide) rfl rfl (Nat.le_of_ble_eq_true rfl) ?_
  intro p e s m args below meth c R Q A ls S hRf hRl hK hA hP hD hS hl hZ hret
  obtain ⟨hx, hb, hml, hown, hts⟩ := id S
  have f57 := hts (.fieldLink RX8 57 "PenniesAway" "kingdom" "LPenniesAway$Realm;") (by decide +kernel)
  have hinX8 : ∀ w ∈ wsX80, w ∈ wsX8_mustGo := fun w hw => List.mem_cons_of_mem _ (List.mem_append_left _ (List.mem_append_right _ hw))
  have f185 := hts (.fieldLink RX8 185 "PenniesAway$Realm" "told" "Z") (by decide +kernel)
  have hinX5 : ∀ w ∈ wsX50, w ∈ wsX8_mustGo := fun w hw => List.mem_cons_of_mem _ (List.mem_append_right _ hw)
  have c80 := hts (.constant RX8 80 (-1000001)) (by decide +kernel)
  have c168 := hts (.constant RX8 168 (-1000002)) (by decide +kernel)
  have hl : lv_has ls 2 [(0, .ref (uP 0)), (1, .int a1)] := hl
  have hre : ∀ (x : Int32) (pc : Nat) (ls : Array Slot) (H : Heap) (locs : List Loc), (some (x) : Option Int32) = some (r) → va_P D vwCl (pw uP uL uG uR uT uC uA uK uW uI cI cB cR cM cJ σP σL σG σR σT σC σA σK ω ι) H → va_D A (pw uP uL uG uR uT uC uA uK uW uI cI cB cR cM cJ σP σL σG σR σT σC σA σK ω ι) → va_S A s.heap H locs → decode cX8_mustGo pc = .ok (.ireturn, 1) → W p l e R s m args below meth c H locs 0 0 Q (F0 m pc ls [.int x]) := by intro x pc ls H locs he; cases he; exact hret pc ls H locs
  unfold FP_mustGo at hf
  refine lv_aload_n hx hb dX8_mustGo_0 rfl (lv_at hl 0 rfl) ?_
  refine Pg_7 S hinX8 hK hP f57 dX8_mustGo_1 ?_
  refine Lg_4 S hinX5 hK hP 3 rfl f185 dX8_mustGo_4 ?_
  refine lv_if_ne (tgt := 13) hx hb dX8_mustGo_7 (by decide) (fun c1 => ?_) (fun c1 => ?_)
  · have hf := (if_neg c1).symm.trans hf
    refine lv_iload_n hx hb dX8_mustGo_13 rfl (lv_at hl 1 rfl) ?_
    refine lv_iconst (v := 1) hx hb dX8_mustGo_14 (by decide) ?_
    refine lv_sipush (v := 400) hx hb dX8_mustGo_15 (by decide) ?_
    obtain ⟨r2, hr2, hf⟩ := bi_some hf
    refine kz_s (n := 3) S hRf hRl hK hA hZ hP hD hS hl [] [.int a1, .int 1, .int 400] [] (kP_outside l D cI cB cR cM cJ t [] a1 1 400 r2 hr2) rfl rfl rfl gX8_mustGo_X8_outside rfl (by decide +kernel) rfl ⟨by decide, by decide⟩ rfl (Nat.le_of_ble_eq_true rfl) dX8_mustGo_18 (fun H locs hP hD hS => ?_)
    replace hP : va_P D vwCl (pw uP uL uG uR uT uC uA uK uW uI cI cB cR cM cJ σP σL σG σR σT σC σA σK ω ι) H := hP
    replace hD : va_D A (pw uP uL uG uR uT uC uA uK uW uI cI cB cR cM cJ σP σL σG σR σT σC σA σK ω ι) := hD
    refine W.eq (g2 := F0 m 21 ls [.int r2]) rfl ?_
    refine lv_if_eq (tgt := 27) hx hb dX8_mustGo_21 (by decide) (fun c3 => ?_) (fun c3 => ?_)
    · have hf := (if_pos c3).symm.trans hf
      refine lv_aload_n hx hb dX8_mustGo_27 rfl (lv_at hl 0 rfl) ?_
      refine Pg_7 S hinX8 hK hP f57 dX8_mustGo_28 ?_
      refine lv_iload_n hx hb dX8_mustGo_31 rfl (lv_at hl 1 rfl) ?_
      obtain ⟨r4, hr4, hf⟩ := bi_some hf
      refine kz_v (ci := 4) (q0 := 0) (n := 1) S hRf hRl hK hA hZ hP hD hS hl [3, 4, 5, 6, 7] [.int a1] [] (kL_coinsToGo l D uL cI cB cR cM cJ t σL a1 r4 hr4) pw_cL rfl rfl gX8_mustGo_X5_coinsToGo rfl (by decide +kernel) rfl ⟨by decide, by decide⟩ rfl rfl rfl rfl (Nat.le_of_ble_eq_true rfl) dX8_mustGo_32 (fun H locs hP hD hS => ?_)
      rw [pw_kL] at hP hD
      refine W.eq (g2 := F0 m 35 ls [.int r4]) rfl ?_
      exact hre _ _ _ _ _ hf hP hD hS dX8_mustGo_35
    · have hf := (if_neg c3).symm.trans hf
      refine lv_ldc (v := (-1000001)) hx hb hown c80 dX8_mustGo_24 ?_
      exact hre _ _ _ _ _ hf hP hD hS dX8_mustGo_26
  · have hf := (if_pos c1).symm.trans hf
    refine lv_ldc (v := (-1000002)) hx hb hown c168 dX8_mustGo_10 ?_
    exact hre _ _ _ _ _ hf hP hD hS dX8_mustGo_12
def FP_save (σL : MS) (a1 : Int32) : Option Int32 :=
  if (σL.1 4) = 0 then (some ((-1000002))) else (Option.bind (FP_outside a1 0 12) fun (r2 : Int32) => if r2 = 0 then (Option.bind (FL_coinsForMessengers σL a1) fun (r4 : Int32) => some (r4)) else (some ((-1000001))))
set_option maxHeartbeats 4000000 in
set_option maxRecDepth 100000 in
theorem kP_save (l : Launch) (D : va_G) (uP uL uG uR uT uC uA uK : Nat → Nat) (uW uI : Nat → Nat → Nat) (cI cB cR cM cJ : ClassId) (t : Nat → Nat) (σP σL σG σR σT σC σA σK : MS) (ω ι : Nat → MS) (a1 : Int32) (r : Int32) (hf : FP_save σL a1 = some (r)) : KZ l D (ctys cI cB cR cM cJ) t yX8_save wsX8_save 6 136 [.ref (uP 0), .int a1] (pw uP uL uG uR uT uC uA uK uW uI cI cB cR cM cJ σP σL σG σR σT σC σA σK ω ι) (some (.int r)) (pw uP uL uG uR uT uC uA uK uW uI cI cB cR cM cJ σP σL σG σR σT σC σA σK ω ι) := by
  refine KZ.ofI (own := RX8) (cc := cX8_save) (maxL := 2) (by decide) rfl rfl (Nat.le_of_ble_eq_true rfl) ?_
  intro p e s m args below meth c R Q A ls S hRf hRl hK hA hP hD hS hl hZ hret
  obtain ⟨hx, hb, hml, hown, hts⟩ := id S
  have f57 := hts (.fieldLink RX8 57 "PenniesAway" "kingdom" "LPenniesAway$Realm;") (by decide +kernel)
  have hinX8 : ∀ w ∈ wsX80, w ∈ wsX8_save := fun w hw => List.mem_cons_of_mem _ (List.mem_append_left _ (List.mem_append_right _ hw))
  have f185 := hts (.fieldLink RX8 185 "PenniesAway$Realm" "told" "Z") (by decide +kernel)
  have hinX5 : ∀ w ∈ wsX50, w ∈ wsX8_save := fun w hw => List.mem_cons_of_mem _ (List.mem_append_right _ hw)
  have c80 := hts (.constant RX8 80 (-1000001)) (by decide +kernel)
  have c168 := hts (.constant RX8 168 (-1000002)) (by decide +kernel)
  have hl : lv_has ls 2 [(0, .ref (uP 0)), (1, .int a1)] := hl
  have hre : ∀ (x : Int32) (pc : Nat) (ls : Array Slot) (H : Heap) (locs : List Loc), (some (x) : Option Int32) = some (r) → va_P D vwCl (pw uP uL uG uR uT uC uA uK uW uI cI cB cR cM cJ σP σL σG σR σT σC σA σK ω ι) H → va_D A (pw uP uL uG uR uT uC uA uK uW uI cI cB cR cM cJ σP σL σG σR σT σC σA σK ω ι) → va_S A s.heap H locs → decode cX8_save pc = .ok (.ireturn, 1) → W p l e R s m args below meth c H locs 0 0 Q (F0 m pc ls [.int x]) := by intro x pc ls H locs he; cases he; exact hret pc ls H locs
  unfold FP_save at hf
  refine lv_aload_n hx hb dX8_save_0 rfl (lv_at hl 0 rfl) ?_
  refine Pg_7 S hinX8 hK hP f57 dX8_save_1 ?_
  refine Lg_4 S hinX5 hK hP 3 rfl f185 dX8_save_4 ?_
  refine lv_if_ne (tgt := 13) hx hb dX8_save_7 (by decide) (fun c1 => ?_) (fun c1 => ?_)
  · have hf := (if_neg c1).symm.trans hf
    refine lv_iload_n hx hb dX8_save_13 rfl (lv_at hl 1 rfl) ?_
    refine lv_iconst (v := 0) hx hb dX8_save_14 (by decide) ?_
    refine lv_bipush (v := 12) hx hb dX8_save_15 (by decide) ?_
    obtain ⟨r2, hr2, hf⟩ := bi_some hf
    refine kz_s (n := 3) S hRf hRl hK hA hZ hP hD hS hl [] [.int a1, .int 0, .int 12] [] (kP_outside l D cI cB cR cM cJ t [] a1 0 12 r2 hr2) rfl rfl rfl gX8_save_X8_outside rfl (by decide +kernel) rfl ⟨by decide, by decide⟩ rfl (Nat.le_of_ble_eq_true rfl) dX8_save_17 (fun H locs hP hD hS => ?_)
    replace hP : va_P D vwCl (pw uP uL uG uR uT uC uA uK uW uI cI cB cR cM cJ σP σL σG σR σT σC σA σK ω ι) H := hP
    replace hD : va_D A (pw uP uL uG uR uT uC uA uK uW uI cI cB cR cM cJ σP σL σG σR σT σC σA σK ω ι) := hD
    refine W.eq (g2 := F0 m 20 ls [.int r2]) rfl ?_
    refine lv_if_eq (tgt := 26) hx hb dX8_save_20 (by decide) (fun c3 => ?_) (fun c3 => ?_)
    · have hf := (if_pos c3).symm.trans hf
      refine lv_aload_n hx hb dX8_save_26 rfl (lv_at hl 0 rfl) ?_
      refine Pg_7 S hinX8 hK hP f57 dX8_save_27 ?_
      refine lv_iload_n hx hb dX8_save_30 rfl (lv_at hl 1 rfl) ?_
      obtain ⟨r4, hr4, hf⟩ := bi_some hf
      refine kz_v (ci := 4) (q0 := 0) (n := 1) S hRf hRl hK hA hZ hP hD hS hl [3, 4, 5, 6, 7] [.int a1] [] (kL_coinsForMessengers l D uL cI cB cR cM cJ t σL a1 r4 hr4) pw_cL rfl rfl gX8_save_X5_coinsForMessengers rfl (by decide +kernel) rfl ⟨by decide, by decide⟩ rfl rfl rfl rfl (Nat.le_of_ble_eq_true rfl) dX8_save_31 (fun H locs hP hD hS => ?_)
      rw [pw_kL] at hP hD
      refine W.eq (g2 := F0 m 34 ls [.int r4]) rfl ?_
      exact hre _ _ _ _ _ hf hP hD hS dX8_save_34
    · have hf := (if_neg c3).symm.trans hf
      refine lv_ldc (v := (-1000001)) hx hb hown c80 dX8_save_23 ?_
      exact hre _ _ _ _ _ hf hP hD hS dX8_save_25
  · have hf := (if_pos c1).symm.trans hf
    refine lv_ldc (v := (-1000002)) hx hb hown c168 dX8_save_10 ?_
    exact hre _ _ _ _ _ hf hP hD hS dX8_save_12
def FP_tour (σL : MS) (σC : MS) (a1 : Int32) (a2 : Int32) : Option (Int32 × MS) :=
  if (σL.1 4) = 0 then (some ((-1000002), σC)) else (Option.bind (FP_outside a1 1 ((1 <<< ((σL.1 6) &&& 31)) - 1)) fun (r2 : Int32) => if r2 = 0 then (if (-2) ≤ a2 then (bd2 (FC_plan σC σL a1) fun (r5 : Int32) (τ6 : MS) => if r5 = (-1000000) then (some ((-1000000), τ6)) else (if a2 = (-2) then (Option.bind (FL_savedByTour σL a1 r5) fun (r11 : Int32) => some (r11, τ6)) else (if a2 = (-1) then (some (r5, τ6)) else (Option.bind (FC_stop τ6 a2) fun (r10 : Int32) => some (r10, τ6))))) else (some ((-1000001), σC))) else (some ((-1000001), σC)))
set_option maxHeartbeats 4000000 in
set_option maxRecDepth 100000 in
theorem kP_tour (l : Launch) (D : va_G) (uP uL uG uR uT uC uA uK : Nat → Nat) (uW uI : Nat → Nat → Nat) (cI cB cR cM cJ : ClassId) (t : Nat → Nat) (σP σL σG σR σT σC σA σK : MS) (ω ι : Nat → MS) (a1 : Int32) (a2 : Int32) (r : Int32) (σC' : MS) (hf : FP_tour σL σC a1 a2 = some (r, σC')) : KZ l D (ctys cI cB cR cM cJ) t yX8_tour wsX8_tour 13 991 [.ref (uP 0), .int a1, .int a2] (pw uP uL uG uR uT uC uA uK uW uI cI cB cR cM cJ σP σL σG σR σT σC σA σK ω ι) (some (.int r)) (pw uP uL uG uR uT uC uA uK uW uI cI cB cR cM cJ σP σL σG σR σT σC' σA σK ω ι) := by
  refine KZ.ofI (own := RX8) (cc := cX8_tour) (maxL := 4) (by decide) rfl rfl (Nat.le_of_ble_eq_true rfl) ?_
  intro p e s m args below meth c R Q A ls S hRf hRl hK hA hP hD hS hl hZ hret
  obtain ⟨hx, hb, hml, hown, hts⟩ := id S
  have f57 := hts (.fieldLink RX8 57 "PenniesAway" "kingdom" "LPenniesAway$Realm;") (by decide +kernel)
  have hinX8 : ∀ w ∈ wsX80, w ∈ wsX8_tour := fun w hw => List.mem_cons_of_mem _ (List.mem_append_left _ (List.mem_append_left _ (List.mem_append_right _ hw)))
  have f185 := hts (.fieldLink RX8 185 "PenniesAway$Realm" "told" "Z") (by decide +kernel)
  have hinX5 : ∀ w ∈ wsX50, w ∈ wsX8_tour := fun w hw => List.mem_cons_of_mem _ (List.mem_append_left _ (List.mem_append_right _ hw))
  have f156 := hts (.fieldLink RX8 156 "PenniesAway$Realm" "holders" "I") (by decide +kernel)
  have c80 := hts (.constant RX8 80 (-1000001)) (by decide +kernel)
  have f45 := hts (.fieldLink RX8 45 "PenniesAway" "carrier" "LPenniesAway$Carrier;") (by decide +kernel)
  have c231 := hts (.constant RX8 231 (-1000000)) (by decide +kernel)
  have c168 := hts (.constant RX8 168 (-1000002)) (by decide +kernel)
  have hl : lv_has ls 4 [(0, .ref (uP 0)), (1, .int a1), (2, .int a2)] := hl
  have hre : ∀ (x : Int32) (τC : MS) (pc : Nat) (ls : Array Slot) (H : Heap) (locs : List Loc), (some (x, τC) : Option (Int32 × MS)) = some (r, σC') → va_P D vwCl (pw uP uL uG uR uT uC uA uK uW uI cI cB cR cM cJ σP σL σG σR σT τC σA σK ω ι) H → va_D A (pw uP uL uG uR uT uC uA uK uW uI cI cB cR cM cJ σP σL σG σR σT τC σA σK ω ι) → va_S A s.heap H locs → decode cX8_tour pc = .ok (.ireturn, 1) → W p l e R s m args below meth c H locs 0 0 Q (F0 m pc ls [.int x]) := by intro x τC pc ls H locs he; cases he; exact hret pc ls H locs
  unfold FP_tour at hf
  refine lv_aload_n hx hb dX8_tour_0 rfl (lv_at hl 0 rfl) ?_
  refine Pg_7 S hinX8 hK hP f57 dX8_tour_1 ?_
  refine Lg_4 S hinX5 hK hP 3 rfl f185 dX8_tour_4 ?_
  refine lv_if_ne (tgt := 13) hx hb dX8_tour_7 (by decide) (fun c1 => ?_) (fun c1 => ?_)
  · have hf := (if_neg c1).symm.trans hf
    refine lv_iload_n hx hb dX8_tour_13 rfl (lv_at hl 1 rfl) ?_
    refine lv_iconst (v := 1) hx hb dX8_tour_14 (by decide) ?_
    refine lv_iconst (v := 1) hx hb dX8_tour_15 (by decide) ?_
    refine lv_aload_n hx hb dX8_tour_16 rfl (lv_at hl 0 rfl) ?_
    refine Pg_7 S hinX8 hK hP f57 dX8_tour_17 ?_
    refine Lg_6 S hinX5 hK hP 3 rfl f156 dX8_tour_20 ?_
    refine lv_ishl hx hb dX8_tour_23 ?_
    refine lv_iconst (v := 1) hx hb dX8_tour_24 (by decide) ?_
    refine lv_isub hx hb dX8_tour_25 ?_
    obtain ⟨r2, hr2, hf⟩ := bi_some hf
    refine kz_s (n := 3) S hRf hRl hK hA hZ hP hD hS hl [] [.int a1, .int 1, .int ((1 <<< ((σL.1 6) &&& 31)) - 1)] [] (kP_outside l D cI cB cR cM cJ t [] a1 1 ((1 <<< ((σL.1 6) &&& 31)) - 1) r2 hr2) rfl rfl rfl gX8_tour_X8_outside rfl (by decide +kernel) rfl ⟨by decide, by decide⟩ rfl (Nat.le_of_ble_eq_true rfl) dX8_tour_26 (fun H locs hP hD hS => ?_)
    replace hP : va_P D vwCl (pw uP uL uG uR uT uC uA uK uW uI cI cB cR cM cJ σP σL σG σR σT σC σA σK ω ι) H := hP
    replace hD : va_D A (pw uP uL uG uR uT uC uA uK uW uI cI cB cR cM cJ σP σL σG σR σT σC σA σK ω ι) := hD
    refine W.eq (g2 := F0 m 29 ls [.int r2]) rfl ?_
    refine lv_if_ne (tgt := 38) hx hb dX8_tour_29 (by decide) (fun c3 => ?_) (fun c3 => ?_)
    · have hf := (if_neg c3).symm.trans hf
      refine lv_ldc (v := (-1000001)) hx hb hown c80 dX8_tour_38 ?_
      exact hre _ _ _ _ _ _ hf hP hD hS dX8_tour_40
    · have hf := (if_pos c3).symm.trans hf
      refine lv_iload_n hx hb dX8_tour_32 rfl (lv_at hl 2 rfl) ?_
      refine lv_bipush (v := (-2)) hx hb dX8_tour_33 (by decide) ?_
      refine lv_icmp_ge (tgt := 41) hx hb dX8_tour_35 (by decide) (fun c4 => ?_) (fun c4 => ?_)
      · have hf := (if_pos c4).symm.trans hf
        refine lv_aload_n hx hb dX8_tour_41 rfl (lv_at hl 0 rfl) ?_
        refine Pg_5 S hinX8 hK hP f45 dX8_tour_42 ?_
        refine lv_aload_n hx hb dX8_tour_45 rfl (lv_at hl 0 rfl) ?_
        refine Pg_7 S hinX8 hK hP f57 dX8_tour_46 ?_
        refine lv_iload_n hx hb dX8_tour_49 rfl (lv_at hl 1 rfl) ?_
        obtain ⟨r5, τ6, hr5, hf⟩ := bd2_some hf
        refine kz_v (ci := 2) (q0 := 0) (n := 2) S hRf hRl hK hA hZ hP hD hS hl [16, 17, 18, 3, 4, 5, 6, 7] [.ref (uL 0), .int a1] [] (kC_plan l D uC uL cI cB cR cM cJ t σC σL a1 r5 τ6 hr5) pw_cCL rfl rfl gX8_tour_X2_plan rfl (by decide +kernel) rfl ⟨by decide, by decide⟩ rfl rfl rfl rfl (Nat.le_of_ble_eq_true rfl) dX8_tour_50 (fun H locs hP hD hS => ?_)
        rw [pw_kCL] at hP hD
        refine W.eq (g2 := F0 m 53 ls [.int r5]) rfl ?_
        refine lv_istore_n (lv' := [(3, .int r5), (0, .ref (uP 0)), (1, .int a1), (2, .int a2)]) hx hb dX8_tour_53 rfl hl (by decide) rfl (fun ls hl => ?_)
        refine lv_iload_n hx hb dX8_tour_54 rfl (lv_at hl 0 rfl) ?_
        refine lv_ldc (v := (-1000000)) hx hb hown c231 dX8_tour_55 ?_
        refine lv_icmp_ne (tgt := 63) hx hb dX8_tour_57 (by decide) (fun c7 => ?_) (fun c7 => ?_)
        · have hf := (if_neg c7).symm.trans hf
          refine lv_iload_n hx hb dX8_tour_63 rfl (lv_at hl 3 rfl) ?_
          refine lv_bipush (v := (-2)) hx hb dX8_tour_64 (by decide) ?_
          refine lv_icmp_ne (tgt := 79) hx hb dX8_tour_66 (by decide) (fun c8 => ?_) (fun c8 => ?_)
          · have hf := (if_neg c8).symm.trans hf
            refine lv_iload_n hx hb dX8_tour_79 rfl (lv_at hl 3 rfl) ?_
            refine lv_iconst (v := (-1)) hx hb dX8_tour_80 (by decide) ?_
            refine lv_icmp_ne (tgt := 88) hx hb dX8_tour_81 (by decide) (fun c9 => ?_) (fun c9 => ?_)
            · have hf := (if_neg c9).symm.trans hf
              refine lv_aload_n hx hb dX8_tour_88 rfl (lv_at hl 1 rfl) ?_
              refine Pg_5 S hinX8 hK hP f45 dX8_tour_89 ?_
              refine lv_iload_n hx hb dX8_tour_92 rfl (lv_at hl 3 rfl) ?_
              obtain ⟨r10, hr10, hf⟩ := bi_some hf
              refine kz_v (ci := 2) (q0 := 0) (n := 1) S hRf hRl hK hA hZ hP hD hS hl [16, 17, 18] [.int a2] [] (kC_stop l D uC cI cB cR cM cJ t τ6 a2 r10 hr10) pw_cC rfl rfl gX8_tour_X2_stop rfl (by decide +kernel) rfl ⟨by decide, by decide⟩ rfl rfl rfl rfl (Nat.le_of_ble_eq_true rfl) dX8_tour_93 (fun H locs hP hD hS => ?_)
              rw [pw_kC] at hP hD
              refine W.eq (g2 := F0 m 96 ls [.int r10]) rfl ?_
              exact hre _ _ _ _ _ _ hf hP hD hS dX8_tour_96
            · have hf := (if_pos c9).symm.trans hf
              refine lv_iload_n hx hb dX8_tour_84 rfl (lv_at hl 0 rfl) ?_
              refine lv_goto (tgt := 96) hx hb dX8_tour_85 (by decide) ?_
              exact hre _ _ _ _ _ _ hf hP hD hS dX8_tour_96
          · have hf := (if_pos c8).symm.trans hf
            refine lv_aload_n hx hb dX8_tour_69 rfl (lv_at hl 1 rfl) ?_
            refine Pg_7 S hinX8 hK hP f57 dX8_tour_70 ?_
            refine lv_iload_n hx hb dX8_tour_73 rfl (lv_at hl 2 rfl) ?_
            refine lv_iload_n hx hb dX8_tour_74 rfl (lv_at hl 0 rfl) ?_
            obtain ⟨r11, hr11, hf⟩ := bi_some hf
            refine kz_v (ci := 4) (q0 := 0) (n := 2) S hRf hRl hK hA hZ hP hD hS hl [3, 4, 5, 6, 7] [.int a1, .int r5] [] (kL_savedByTour l D uL cI cB cR cM cJ t σL a1 r5 r11 hr11) pw_cL rfl rfl gX8_tour_X5_savedByTour rfl (by decide +kernel) rfl ⟨by decide, by decide⟩ rfl rfl rfl rfl (Nat.le_of_ble_eq_true rfl) dX8_tour_75 (fun H locs hP hD hS => ?_)
            rw [pw_kL] at hP hD
            refine W.eq (g2 := F0 m 78 ls [.int r11]) rfl ?_
            exact hre _ _ _ _ _ _ hf hP hD hS dX8_tour_78
        · have hf := (if_pos c7).symm.trans hf
          refine lv_ldc (v := (-1000000)) hx hb hown c231 dX8_tour_60 ?_
          exact hre _ _ _ _ _ _ hf hP hD hS dX8_tour_62
      · have hf := (if_neg c4).symm.trans hf
        refine lv_ldc (v := (-1000001)) hx hb hown c80 dX8_tour_38 ?_
        exact hre _ _ _ _ _ _ hf hP hD hS dX8_tour_40
  · have hf := (if_pos c1).symm.trans hf
    refine lv_ldc (v := (-1000002)) hx hb hown c168 dX8_tour_10 ?_
    exact hre _ _ _ _ _ _ hf hP hD hS dX8_tour_12
def FP_mint (σL : MS) (a1 : Int32) : Option Int32 :=
  if (σL.1 4) = 0 then (some ((-1000002))) else (Option.bind (FP_outside a1 0 1) fun (r2 : Int32) => if r2 = 0 then (Option.bind (FL_bestSecondMint σL) fun (r4 : Int32) => if a1 = 0 then (some (r4)) else (Option.bind (FL_lateWithMint σL r4) fun (r6 : Int32) => some (r6))) else (some ((-1000001))))
set_option maxHeartbeats 4000000 in
set_option maxRecDepth 100000 in
theorem kP_mint (l : Launch) (D : va_G) (uP uL uG uR uT uC uA uK : Nat → Nat) (uW uI : Nat → Nat → Nat) (cI cB cR cM cJ : ClassId) (t : Nat → Nat) (σP σL σG σR σT σC σA σK : MS) (ω ι : Nat → MS) (a1 : Int32) (r : Int32) (hf : FP_mint σL a1 = some (r)) : KZ l D (ctys cI cB cR cM cJ) t yX8_mint wsX8_mint 5 112 [.ref (uP 0), .int a1] (pw uP uL uG uR uT uC uA uK uW uI cI cB cR cM cJ σP σL σG σR σT σC σA σK ω ι) (some (.int r)) (pw uP uL uG uR uT uC uA uK uW uI cI cB cR cM cJ σP σL σG σR σT σC σA σK ω ι) := by
  refine KZ.ofI (own := RX8) (cc := cX8_mint) (maxL := 3) (by decide) rfl rfl (Nat.le_of_ble_eq_true rfl) ?_
  intro p e s m args below meth c R Q A ls S hRf hRl hK hA hP hD hS hl hZ hret
  obtain ⟨hx, hb, hml, hown, hts⟩ := id S
  have f57 := hts (.fieldLink RX8 57 "PenniesAway" "kingdom" "LPenniesAway$Realm;") (by decide +kernel)
  have hinX8 : ∀ w ∈ wsX80, w ∈ wsX8_mint := fun w hw => List.mem_cons_of_mem _ (List.mem_append_left _ (List.mem_append_right _ hw))
  have f185 := hts (.fieldLink RX8 185 "PenniesAway$Realm" "told" "Z") (by decide +kernel)
  have hinX5 : ∀ w ∈ wsX50, w ∈ wsX8_mint := fun w hw => List.mem_cons_of_mem _ (List.mem_append_right _ hw)
  have c80 := hts (.constant RX8 80 (-1000001)) (by decide +kernel)
  have c168 := hts (.constant RX8 168 (-1000002)) (by decide +kernel)
  have hl : lv_has ls 3 [(0, .ref (uP 0)), (1, .int a1)] := hl
  have hre : ∀ (x : Int32) (pc : Nat) (ls : Array Slot) (H : Heap) (locs : List Loc), (some (x) : Option Int32) = some (r) → va_P D vwCl (pw uP uL uG uR uT uC uA uK uW uI cI cB cR cM cJ σP σL σG σR σT σC σA σK ω ι) H → va_D A (pw uP uL uG uR uT uC uA uK uW uI cI cB cR cM cJ σP σL σG σR σT σC σA σK ω ι) → va_S A s.heap H locs → decode cX8_mint pc = .ok (.ireturn, 1) → W p l e R s m args below meth c H locs 0 0 Q (F0 m pc ls [.int x]) := by intro x pc ls H locs he; cases he; exact hret pc ls H locs
  unfold FP_mint at hf
  refine lv_aload_n hx hb dX8_mint_0 rfl (lv_at hl 0 rfl) ?_
  refine Pg_7 S hinX8 hK hP f57 dX8_mint_1 ?_
  refine Lg_4 S hinX5 hK hP 3 rfl f185 dX8_mint_4 ?_
  refine lv_if_ne (tgt := 13) hx hb dX8_mint_7 (by decide) (fun c1 => ?_) (fun c1 => ?_)
  · have hf := (if_neg c1).symm.trans hf
    refine lv_iload_n hx hb dX8_mint_13 rfl (lv_at hl 1 rfl) ?_
    refine lv_iconst (v := 0) hx hb dX8_mint_14 (by decide) ?_
    refine lv_iconst (v := 1) hx hb dX8_mint_15 (by decide) ?_
    obtain ⟨r2, hr2, hf⟩ := bi_some hf
    refine kz_s (n := 3) S hRf hRl hK hA hZ hP hD hS hl [] [.int a1, .int 0, .int 1] [] (kP_outside l D cI cB cR cM cJ t [] a1 0 1 r2 hr2) rfl rfl rfl gX8_mint_X8_outside rfl (by decide +kernel) rfl ⟨by decide, by decide⟩ rfl (Nat.le_of_ble_eq_true rfl) dX8_mint_16 (fun H locs hP hD hS => ?_)
    replace hP : va_P D vwCl (pw uP uL uG uR uT uC uA uK uW uI cI cB cR cM cJ σP σL σG σR σT σC σA σK ω ι) H := hP
    replace hD : va_D A (pw uP uL uG uR uT uC uA uK uW uI cI cB cR cM cJ σP σL σG σR σT σC σA σK ω ι) := hD
    refine W.eq (g2 := F0 m 19 ls [.int r2]) rfl ?_
    refine lv_if_eq (tgt := 25) hx hb dX8_mint_19 (by decide) (fun c3 => ?_) (fun c3 => ?_)
    · have hf := (if_pos c3).symm.trans hf
      refine lv_aload_n hx hb dX8_mint_25 rfl (lv_at hl 0 rfl) ?_
      refine Pg_7 S hinX8 hK hP f57 dX8_mint_26 ?_
      obtain ⟨r4, hr4, hf⟩ := bi_some hf
      refine kz_v (ci := 4) (q0 := 0) (n := 0) S hRf hRl hK hA hZ hP hD hS hl [3, 4, 5, 6, 7] [] [] (kL_bestSecondMint l D uL cI cB cR cM cJ t σL r4 hr4) pw_cL rfl rfl gX8_mint_X5_bestSecondMint rfl (by decide +kernel) rfl ⟨by decide, by decide⟩ rfl rfl rfl rfl (Nat.le_of_ble_eq_true rfl) dX8_mint_29 (fun H locs hP hD hS => ?_)
      rw [pw_kL] at hP hD
      refine W.eq (g2 := F0 m 32 ls [.int r4]) rfl ?_
      refine lv_istore_n (lv' := [(2, .int r4), (0, .ref (uP 0)), (1, .int a1)]) hx hb dX8_mint_32 rfl hl (by decide) rfl (fun ls hl => ?_)
      refine lv_iload_n hx hb dX8_mint_33 rfl (lv_at hl 2 rfl) ?_
      refine lv_if_ne (tgt := 41) hx hb dX8_mint_34 (by decide) (fun c5 => ?_) (fun c5 => ?_)
      · have hf := (if_neg c5).symm.trans hf
        refine lv_aload_n hx hb dX8_mint_41 rfl (lv_at hl 1 rfl) ?_
        refine Pg_7 S hinX8 hK hP f57 dX8_mint_42 ?_
        refine lv_iload_n hx hb dX8_mint_45 rfl (lv_at hl 0 rfl) ?_
        obtain ⟨r6, hr6, hf⟩ := bi_some hf
        refine kz_v (ci := 4) (q0 := 0) (n := 1) S hRf hRl hK hA hZ hP hD hS hl [3, 4, 5, 6, 7] [.int r4] [] (kL_lateWithMint l D uL cI cB cR cM cJ t σL r4 r6 hr6) pw_cL rfl rfl gX8_mint_X5_lateWithMint rfl (by decide +kernel) rfl ⟨by decide, by decide⟩ rfl rfl rfl rfl (Nat.le_of_ble_eq_true rfl) dX8_mint_46 (fun H locs hP hD hS => ?_)
        rw [pw_kL] at hP hD
        refine W.eq (g2 := F0 m 49 ls [.int r6]) rfl ?_
        exact hre _ _ _ _ _ hf hP hD hS dX8_mint_49
      · have hf := (if_pos c5).symm.trans hf
        refine lv_iload_n hx hb dX8_mint_37 rfl (lv_at hl 0 rfl) ?_
        refine lv_goto (tgt := 49) hx hb dX8_mint_38 (by decide) ?_
        exact hre _ _ _ _ _ hf hP hD hS dX8_mint_49
    · have hf := (if_neg c3).symm.trans hf
      refine lv_ldc (v := (-1000001)) hx hb hown c80 dX8_mint_22 ?_
      exact hre _ _ _ _ _ hf hP hD hS dX8_mint_24
  · have hf := (if_pos c1).symm.trans hf
    refine lv_ldc (v := (-1000002)) hx hb hown c168 dX8_mint_10 ?_
    exact hre _ _ _ _ _ hf hP hD hS dX8_mint_12
def FP_sounds (σL : MS) (a1 : Int32) (a2 : Int32) : Option Int32 :=
  if (σL.1 4) = 0 then (some ((-1000002))) else (Option.bind (FP_outside a1 0 7) fun (r2 : Int32) => if r2 = 0 then (Option.bind (FP_outside a2 0 400) fun (r4 : Int32) => if r4 = 0 then (Option.bind (FL_soundingIn σL a1 a2) fun (r6 : Int32) => some (r6)) else (some ((-1000001)))) else (some ((-1000001))))
set_option maxHeartbeats 4000000 in
set_option maxRecDepth 100000 in
theorem kP_sounds (l : Launch) (D : va_G) (uP uL uG uR uT uC uA uK : Nat → Nat) (uW uI : Nat → Nat → Nat) (cI cB cR cM cJ : ClassId) (t : Nat → Nat) (σP σL σG σR σT σC σA σK : MS) (ω ι : Nat → MS) (a1 : Int32) (a2 : Int32) (r : Int32) (hf : FP_sounds σL a1 a2 = some (r)) : KZ l D (ctys cI cB cR cM cJ) t yX8_sounds wsX8_sounds 4 89 [.ref (uP 0), .int a1, .int a2] (pw uP uL uG uR uT uC uA uK uW uI cI cB cR cM cJ σP σL σG σR σT σC σA σK ω ι) (some (.int r)) (pw uP uL uG uR uT uC uA uK uW uI cI cB cR cM cJ σP σL σG σR σT σC σA σK ω ι) := by
  refine KZ.ofI (own := RX8) (cc := cX8_sounds) (maxL := 3) (by decide) rfl rfl (Nat.le_of_ble_eq_true rfl) ?_
  intro p e s m args below meth c R Q A ls S hRf hRl hK hA hP hD hS hl hZ hret
  obtain ⟨hx, hb, hml, hown, hts⟩ := id S
  have f57 := hts (.fieldLink RX8 57 "PenniesAway" "kingdom" "LPenniesAway$Realm;") (by decide +kernel)
  have hinX8 : ∀ w ∈ wsX80, w ∈ wsX8_sounds := fun w hw => List.mem_cons_of_mem _ (List.mem_append_left _ (List.mem_append_right _ hw))
  have f185 := hts (.fieldLink RX8 185 "PenniesAway$Realm" "told" "Z") (by decide +kernel)
  have hinX5 : ∀ w ∈ wsX50, w ∈ wsX8_sounds := fun w hw => List.mem_cons_of_mem _ (List.mem_append_right _ hw)
  have c80 := hts (.constant RX8 80 (-1000001)) (by decide +kernel)
  have c168 := hts (.constant RX8 168 (-1000002)) (by decide +kernel)
  have hl : lv_has ls 3 [(0, .ref (uP 0)), (1, .int a1), (2, .int a2)] := hl
  have hre : ∀ (x : Int32) (pc : Nat) (ls : Array Slot) (H : Heap) (locs : List Loc), (some (x) : Option Int32) = some (r) → va_P D vwCl (pw uP uL uG uR uT uC uA uK uW uI cI cB cR cM cJ σP σL σG σR σT σC σA σK ω ι) H → va_D A (pw uP uL uG uR uT uC uA uK uW uI cI cB cR cM cJ σP σL σG σR σT σC σA σK ω ι) → va_S A s.heap H locs → decode cX8_sounds pc = .ok (.ireturn, 1) → W p l e R s m args below meth c H locs 0 0 Q (F0 m pc ls [.int x]) := by intro x pc ls H locs he; cases he; exact hret pc ls H locs
  unfold FP_sounds at hf
  refine lv_aload_n hx hb dX8_sounds_0 rfl (lv_at hl 0 rfl) ?_
  refine Pg_7 S hinX8 hK hP f57 dX8_sounds_1 ?_
  refine Lg_4 S hinX5 hK hP 3 rfl f185 dX8_sounds_4 ?_
  refine lv_if_ne (tgt := 13) hx hb dX8_sounds_7 (by decide) (fun c1 => ?_) (fun c1 => ?_)
  · have hf := (if_neg c1).symm.trans hf
    refine lv_iload_n hx hb dX8_sounds_13 rfl (lv_at hl 1 rfl) ?_
    refine lv_iconst (v := 0) hx hb dX8_sounds_14 (by decide) ?_
    refine lv_bipush (v := 7) hx hb dX8_sounds_15 (by decide) ?_
    obtain ⟨r2, hr2, hf⟩ := bi_some hf
    refine kz_s (n := 3) S hRf hRl hK hA hZ hP hD hS hl [] [.int a1, .int 0, .int 7] [] (kP_outside l D cI cB cR cM cJ t [] a1 0 7 r2 hr2) rfl rfl rfl gX8_sounds_X8_outside rfl (by decide +kernel) rfl ⟨by decide, by decide⟩ rfl (Nat.le_of_ble_eq_true rfl) dX8_sounds_17 (fun H locs hP hD hS => ?_)
    replace hP : va_P D vwCl (pw uP uL uG uR uT uC uA uK uW uI cI cB cR cM cJ σP σL σG σR σT σC σA σK ω ι) H := hP
    replace hD : va_D A (pw uP uL uG uR uT uC uA uK uW uI cI cB cR cM cJ σP σL σG σR σT σC σA σK ω ι) := hD
    refine W.eq (g2 := F0 m 20 ls [.int r2]) rfl ?_
    refine lv_if_ne (tgt := 34) hx hb dX8_sounds_20 (by decide) (fun c3 => ?_) (fun c3 => ?_)
    · have hf := (if_neg c3).symm.trans hf
      refine lv_ldc (v := (-1000001)) hx hb hown c80 dX8_sounds_34 ?_
      exact hre _ _ _ _ _ hf hP hD hS dX8_sounds_36
    · have hf := (if_pos c3).symm.trans hf
      refine lv_iload_n hx hb dX8_sounds_23 rfl (lv_at hl 2 rfl) ?_
      refine lv_iconst (v := 0) hx hb dX8_sounds_24 (by decide) ?_
      refine lv_sipush (v := 400) hx hb dX8_sounds_25 (by decide) ?_
      obtain ⟨r4, hr4, hf⟩ := bi_some hf
      refine kz_s (n := 3) S hRf hRl hK hA hZ hP hD hS hl [] [.int a2, .int 0, .int 400] [] (kP_outside l D cI cB cR cM cJ t [] a2 0 400 r4 hr4) rfl rfl rfl gX8_sounds_X8_outside rfl (by decide +kernel) rfl ⟨by decide, by decide⟩ rfl (Nat.le_of_ble_eq_true rfl) dX8_sounds_28 (fun H locs hP hD hS => ?_)
      replace hP : va_P D vwCl (pw uP uL uG uR uT uC uA uK uW uI cI cB cR cM cJ σP σL σG σR σT σC σA σK ω ι) H := hP
      replace hD : va_D A (pw uP uL uG uR uT uC uA uK uW uI cI cB cR cM cJ σP σL σG σR σT σC σA σK ω ι) := hD
      refine W.eq (g2 := F0 m 31 ls [.int r4]) rfl ?_
      refine lv_if_eq (tgt := 37) hx hb dX8_sounds_31 (by decide) (fun c5 => ?_) (fun c5 => ?_)
      · have hf := (if_pos c5).symm.trans hf
        refine lv_aload_n hx hb dX8_sounds_37 rfl (lv_at hl 0 rfl) ?_
        refine Pg_7 S hinX8 hK hP f57 dX8_sounds_38 ?_
        refine lv_iload_n hx hb dX8_sounds_41 rfl (lv_at hl 1 rfl) ?_
        refine lv_iload_n hx hb dX8_sounds_42 rfl (lv_at hl 2 rfl) ?_
        obtain ⟨r6, hr6, hf⟩ := bi_some hf
        refine kz_v (ci := 4) (q0 := 0) (n := 2) S hRf hRl hK hA hZ hP hD hS hl [3, 4, 5, 6, 7] [.int a1, .int a2] [] (kL_soundingIn l D uL cI cB cR cM cJ t σL a1 a2 r6 hr6) pw_cL rfl rfl gX8_sounds_X5_soundingIn rfl (by decide +kernel) rfl ⟨by decide, by decide⟩ rfl rfl rfl rfl (Nat.le_of_ble_eq_true rfl) dX8_sounds_43 (fun H locs hP hD hS => ?_)
        rw [pw_kL] at hP hD
        refine W.eq (g2 := F0 m 46 ls [.int r6]) rfl ?_
        exact hre _ _ _ _ _ hf hP hD hS dX8_sounds_46
      · have hf := (if_neg c5).symm.trans hf
        refine lv_ldc (v := (-1000001)) hx hb hown c80 dX8_sounds_34 ?_
        exact hre _ _ _ _ _ hf hP hD hS dX8_sounds_36
  · have hf := (if_pos c1).symm.trans hf
    refine lv_ldc (v := (-1000002)) hx hb hown c168 dX8_sounds_10 ?_
    exact hre _ _ _ _ _ hf hP hD hS dX8_sounds_12
def FP_ear_142 (l8 : Int32) (s0 : Int32) : Option Int32 :=
  gd (¬ (l8 : Int32) = 0) (some ((s0 / l8)))
def FP_ear (a1 : Int32) (a2 : Int32) (a3 : Int32) (a4 : Int32) (a5 : Int32) : Option Int32 :=
  Option.bind (FP_outside a1 0 10) fun (r1 : Int32) => if r1 = 0 then (Option.bind (FP_outside a2 0 10) fun (r3 : Int32) => if r3 = 0 then (Option.bind (FP_outside a3 0 3) fun (r5 : Int32) => if r5 = 0 then (Option.bind (FP_outside a4 0 a3) fun (r7 : Int32) => if r7 = 0 then (Option.bind (FP_outside a5 0 1) fun (r9 : Int32) => if r9 = 0 then (Option.bind (FP_power (10 - a2) a4) fun (r11 : Int32) => Option.bind (FP_power a2 (a3 - a4)) fun (r12 : Int32) => nm ((a1 * r11) * r12) fun (x13 : Int32) => Option.bind (FP_power a2 a4) fun (r14 : Int32) => Option.bind (FP_power (10 - a2) (a3 - a4)) fun (r15 : Int32) => nm (((10 - a1) * r14) * r15) fun (x16 : Int32) => if x13 = 0 then (if a5 = 0 then (some (0)) else (some (1))) else (Option.bind (FP_commonDivisor x13 (x13 + x16)) fun (r18 : Int32) => if a5 = 0 then (FP_ear_142 r18 x13) else (FP_ear_142 r18 (x13 + x16)))) else (some ((-1000001)))) else (some ((-1000001)))) else (some ((-1000001)))) else (some ((-1000001)))) else (some ((-1000001)))
set_option maxHeartbeats 4000000 in
set_option maxRecDepth 100000 in
theorem kP_ear (l : Launch) (D : va_G) (uP uL uG uR uT uC uA uK : Nat → Nat) (uW uI : Nat → Nat → Nat) (cI cB cR cM cJ : ClassId) (t : Nat → Nat) (σP σL σG σR σT σC σA σK : MS) (ω ι : Nat → MS) (a1 : Int32) (a2 : Int32) (a3 : Int32) (a4 : Int32) (a5 : Int32) (r : Int32) (hf : FP_ear a1 a2 a3 a4 a5 = some (r)) : KZ l D (ctys cI cB cR cM cJ) t yX8_ear wsX8_ear 2 49 [.ref (uP 0), .int a1, .int a2, .int a3, .int a4, .int a5] (pw uP uL uG uR uT uC uA uK uW uI cI cB cR cM cJ σP σL σG σR σT σC σA σK ω ι) (some (.int r)) (pw uP uL uG uR uT uC uA uK uW uI cI cB cR cM cJ σP σL σG σR σT σC σA σK ω ι) := by
  refine KZ.ofI (own := RX8) (cc := cX8_ear) (maxL := 9) (by decide) rfl rfl (Nat.le_of_ble_eq_true rfl) ?_
  intro p e s m args below meth c R Q A ls S hRf hRl hK hA hP hD hS hl hZ hret
  obtain ⟨hx, hb, hml, hown, hts⟩ := id S
  have c80 := hts (.constant RX8 80 (-1000001)) (by decide +kernel)
  have hl : lv_has ls 9 [(0, .ref (uP 0)), (1, .int a1), (2, .int a2), (3, .int a3), (4, .int a4), (5, .int a5)] := hl
  have hre : ∀ (x : Int32) (pc : Nat) (ls : Array Slot) (H : Heap) (locs : List Loc), (some (x) : Option Int32) = some (r) → va_P D vwCl (pw uP uL uG uR uT uC uA uK uW uI cI cB cR cM cJ σP σL σG σR σT σC σA σK ω ι) H → va_D A (pw uP uL uG uR uT uC uA uK uW uI cI cB cR cM cJ σP σL σG σR σT σC σA σK ω ι) → va_S A s.heap H locs → decode cX8_ear pc = .ok (.ireturn, 1) → W p l e R s m args below meth c H locs 0 0 Q (F0 m pc ls [.int x]) := by intro x pc ls H locs he; cases he; exact hret pc ls H locs
  have b142 : ∀ (l8 : Int32) (s0 : Int32) (ls : Array Slot) (H : Heap) (locs : List Loc), FP_ear_142 l8 s0 = some (r) → lv_has ls 9 [(8, .int l8)] → va_P D vwCl (pw uP uL uG uR uT uC uA uK uW uI cI cB cR cM cJ σP σL σG σR σT σC σA σK ω ι) H → va_D A (pw uP uL uG uR uT uC uA uK uW uI cI cB cR cM cJ σP σL σG σR σT σC σA σK ω ι) → va_S A s.heap H locs → W p l e R s m args below meth c H locs 0 0 Q (F0 m 142 ls [.int s0]) := by
    intro l8 s0 ls H locs hf hl hP hD hS
    unfold FP_ear_142 at hf
    refine lv_iload hx hb dX8_ear_142 (lv_at hl 0 rfl) ?_
    obtain ⟨g21, hf⟩ := gd_some hf
    refine lv_idiv hx hb dX8_ear_144 g21 ?_
    exact hre _ _ _ _ _ hf hP hD hS dX8_ear_145
  unfold FP_ear at hf
  refine lv_iload_n hx hb dX8_ear_0 rfl (lv_at hl 1 rfl) ?_
  refine lv_iconst (v := 0) hx hb dX8_ear_1 (by decide) ?_
  refine lv_bipush (v := 10) hx hb dX8_ear_2 (by decide) ?_
  obtain ⟨r1, hr1, hf⟩ := bi_some hf
  refine kz_s (n := 3) S hRf hRl hK hA hZ hP hD hS hl [] [.int a1, .int 0, .int 10] [] (kP_outside l D cI cB cR cM cJ t [] a1 0 10 r1 hr1) rfl rfl rfl gX8_ear_X8_outside rfl (by decide +kernel) rfl ⟨by decide, by decide⟩ rfl (Nat.le_of_ble_eq_true rfl) dX8_ear_4 (fun H locs hP hD hS => ?_)
  replace hP : va_P D vwCl (pw uP uL uG uR uT uC uA uK uW uI cI cB cR cM cJ σP σL σG σR σT σC σA σK ω ι) H := hP
  replace hD : va_D A (pw uP uL uG uR uT uC uA uK uW uI cI cB cR cM cJ σP σL σG σR σT σC σA σK ω ι) := hD
  refine W.eq (g2 := F0 m 7 ls [.int r1]) rfl ?_
  refine lv_if_ne (tgt := 49) hx hb dX8_ear_7 (by decide) (fun c2 => ?_) (fun c2 => ?_)
  · have hf := (if_neg c2).symm.trans hf
    refine lv_ldc (v := (-1000001)) hx hb hown c80 dX8_ear_49 ?_
    exact hre _ _ _ _ _ hf hP hD hS dX8_ear_51
  · have hf := (if_pos c2).symm.trans hf
    refine lv_iload_n hx hb dX8_ear_10 rfl (lv_at hl 2 rfl) ?_
    refine lv_iconst (v := 0) hx hb dX8_ear_11 (by decide) ?_
    refine lv_bipush (v := 10) hx hb dX8_ear_12 (by decide) ?_
    obtain ⟨r3, hr3, hf⟩ := bi_some hf
    refine kz_s (n := 3) S hRf hRl hK hA hZ hP hD hS hl [] [.int a2, .int 0, .int 10] [] (kP_outside l D cI cB cR cM cJ t [] a2 0 10 r3 hr3) rfl rfl rfl gX8_ear_X8_outside rfl (by decide +kernel) rfl ⟨by decide, by decide⟩ rfl (Nat.le_of_ble_eq_true rfl) dX8_ear_14 (fun H locs hP hD hS => ?_)
    replace hP : va_P D vwCl (pw uP uL uG uR uT uC uA uK uW uI cI cB cR cM cJ σP σL σG σR σT σC σA σK ω ι) H := hP
    replace hD : va_D A (pw uP uL uG uR uT uC uA uK uW uI cI cB cR cM cJ σP σL σG σR σT σC σA σK ω ι) := hD
    refine W.eq (g2 := F0 m 17 ls [.int r3]) rfl ?_
    refine lv_if_ne (tgt := 49) hx hb dX8_ear_17 (by decide) (fun c4 => ?_) (fun c4 => ?_)
    · have hf := (if_neg c4).symm.trans hf
      refine lv_ldc (v := (-1000001)) hx hb hown c80 dX8_ear_49 ?_
      exact hre _ _ _ _ _ hf hP hD hS dX8_ear_51
    · have hf := (if_pos c4).symm.trans hf
      refine lv_iload_n hx hb dX8_ear_20 rfl (lv_at hl 3 rfl) ?_
      refine lv_iconst (v := 0) hx hb dX8_ear_21 (by decide) ?_
      refine lv_iconst (v := 3) hx hb dX8_ear_22 (by decide) ?_
      obtain ⟨r5, hr5, hf⟩ := bi_some hf
      refine kz_s (n := 3) S hRf hRl hK hA hZ hP hD hS hl [] [.int a3, .int 0, .int 3] [] (kP_outside l D cI cB cR cM cJ t [] a3 0 3 r5 hr5) rfl rfl rfl gX8_ear_X8_outside rfl (by decide +kernel) rfl ⟨by decide, by decide⟩ rfl (Nat.le_of_ble_eq_true rfl) dX8_ear_23 (fun H locs hP hD hS => ?_)
      replace hP : va_P D vwCl (pw uP uL uG uR uT uC uA uK uW uI cI cB cR cM cJ σP σL σG σR σT σC σA σK ω ι) H := hP
      replace hD : va_D A (pw uP uL uG uR uT uC uA uK uW uI cI cB cR cM cJ σP σL σG σR σT σC σA σK ω ι) := hD
      refine W.eq (g2 := F0 m 26 ls [.int r5]) rfl ?_
      refine lv_if_ne (tgt := 49) hx hb dX8_ear_26 (by decide) (fun c6 => ?_) (fun c6 => ?_)
      · have hf := (if_neg c6).symm.trans hf
        refine lv_ldc (v := (-1000001)) hx hb hown c80 dX8_ear_49 ?_
        exact hre _ _ _ _ _ hf hP hD hS dX8_ear_51
      · have hf := (if_pos c6).symm.trans hf
        refine lv_iload hx hb dX8_ear_29 (lv_at hl 4 rfl) ?_
        refine lv_iconst (v := 0) hx hb dX8_ear_31 (by decide) ?_
        refine lv_iload_n hx hb dX8_ear_32 rfl (lv_at hl 3 rfl) ?_
        obtain ⟨r7, hr7, hf⟩ := bi_some hf
        refine kz_s (n := 3) S hRf hRl hK hA hZ hP hD hS hl [] [.int a4, .int 0, .int a3] [] (kP_outside l D cI cB cR cM cJ t [] a4 0 a3 r7 hr7) rfl rfl rfl gX8_ear_X8_outside rfl (by decide +kernel) rfl ⟨by decide, by decide⟩ rfl (Nat.le_of_ble_eq_true rfl) dX8_ear_33 (fun H locs hP hD hS => ?_)
        replace hP : va_P D vwCl (pw uP uL uG uR uT uC uA uK uW uI cI cB cR cM cJ σP σL σG σR σT σC σA σK ω ι) H := hP
        replace hD : va_D A (pw uP uL uG uR uT uC uA uK uW uI cI cB cR cM cJ σP σL σG σR σT σC σA σK ω ι) := hD
        refine W.eq (g2 := F0 m 36 ls [.int r7]) rfl ?_
        refine lv_if_ne (tgt := 49) hx hb dX8_ear_36 (by decide) (fun c8 => ?_) (fun c8 => ?_)
        · have hf := (if_neg c8).symm.trans hf
          refine lv_ldc (v := (-1000001)) hx hb hown c80 dX8_ear_49 ?_
          exact hre _ _ _ _ _ hf hP hD hS dX8_ear_51
        · have hf := (if_pos c8).symm.trans hf
          refine lv_iload hx hb dX8_ear_39 (lv_at hl 5 rfl) ?_
          refine lv_iconst (v := 0) hx hb dX8_ear_41 (by decide) ?_
          refine lv_iconst (v := 1) hx hb dX8_ear_42 (by decide) ?_
          obtain ⟨r9, hr9, hf⟩ := bi_some hf
          refine kz_s (n := 3) S hRf hRl hK hA hZ hP hD hS hl [] [.int a5, .int 0, .int 1] [] (kP_outside l D cI cB cR cM cJ t [] a5 0 1 r9 hr9) rfl rfl rfl gX8_ear_X8_outside rfl (by decide +kernel) rfl ⟨by decide, by decide⟩ rfl (Nat.le_of_ble_eq_true rfl) dX8_ear_43 (fun H locs hP hD hS => ?_)
          replace hP : va_P D vwCl (pw uP uL uG uR uT uC uA uK uW uI cI cB cR cM cJ σP σL σG σR σT σC σA σK ω ι) H := hP
          replace hD : va_D A (pw uP uL uG uR uT uC uA uK uW uI cI cB cR cM cJ σP σL σG σR σT σC σA σK ω ι) := hD
          refine W.eq (g2 := F0 m 46 ls [.int r9]) rfl ?_
          refine lv_if_eq (tgt := 52) hx hb dX8_ear_46 (by decide) (fun c10 => ?_) (fun c10 => ?_)
          · have hf := (if_pos c10).symm.trans hf
            refine lv_iload_n hx hb dX8_ear_52 rfl (lv_at hl 1 rfl) ?_
            refine lv_bipush (v := 10) hx hb dX8_ear_53 (by decide) ?_
            refine lv_iload_n hx hb dX8_ear_55 rfl (lv_at hl 2 rfl) ?_
            refine lv_isub hx hb dX8_ear_56 ?_
            refine lv_iload hx hb dX8_ear_57 (lv_at hl 4 rfl) ?_
            obtain ⟨r11, hr11, hf⟩ := bi_some hf
            refine kz_s (n := 2) S hRf hRl hK hA hZ hP hD hS hl [] [.int (10 - a2), .int a4] [.int a1] (kP_power l D cI cB cR cM cJ t [] (10 - a2) a4 r11 hr11) rfl rfl rfl gX8_ear_X8_power rfl (by decide +kernel) rfl ⟨by decide, by decide⟩ rfl (Nat.le_of_ble_eq_true rfl) dX8_ear_59 (fun H locs hP hD hS => ?_)
            replace hP : va_P D vwCl (pw uP uL uG uR uT uC uA uK uW uI cI cB cR cM cJ σP σL σG σR σT σC σA σK ω ι) H := hP
            replace hD : va_D A (pw uP uL uG uR uT uC uA uK uW uI cI cB cR cM cJ σP σL σG σR σT σC σA σK ω ι) := hD
            refine W.eq (g2 := F0 m 62 ls [.int r11, .int a1]) rfl ?_
            refine lv_imul hx hb dX8_ear_62 ?_
            refine lv_iload_n hx hb dX8_ear_63 rfl (lv_at hl 2 rfl) ?_
            refine lv_iload_n hx hb dX8_ear_64 rfl (lv_at hl 3 rfl) ?_
            refine lv_iload hx hb dX8_ear_65 (lv_at hl 4 rfl) ?_
            refine lv_isub hx hb dX8_ear_67 ?_
            obtain ⟨r12, hr12, hf⟩ := bi_some hf
            refine kz_s (n := 2) S hRf hRl hK hA hZ hP hD hS hl [] [.int a2, .int (a3 - a4)] [.int (a1 * r11)] (kP_power l D cI cB cR cM cJ t [] a2 (a3 - a4) r12 hr12) rfl rfl rfl gX8_ear_X8_power rfl (by decide +kernel) rfl ⟨by decide, by decide⟩ rfl (Nat.le_of_ble_eq_true rfl) dX8_ear_68 (fun H locs hP hD hS => ?_)
            replace hP : va_P D vwCl (pw uP uL uG uR uT uC uA uK uW uI cI cB cR cM cJ σP σL σG σR σT σC σA σK ω ι) H := hP
            replace hD : va_D A (pw uP uL uG uR uT uC uA uK uW uI cI cB cR cM cJ σP σL σG σR σT σC σA σK ω ι) := hD
            refine W.eq (g2 := F0 m 71 ls [.int r12, .int (a1 * r11)]) rfl ?_
            refine lv_imul hx hb dX8_ear_71 ?_
            refine lv_topi (fun x13 ex13 => ?_)
            have hf := nm_at ex13 hf
            refine lv_istore (lv' := [(6, .int x13), (0, .ref (uP 0)), (1, .int a1), (2, .int a2), (3, .int a3), (4, .int a4), (5, .int a5)]) hx hb dX8_ear_72 hl (by decide) rfl (fun ls hl => ?_)
            refine lv_bipush (v := 10) hx hb dX8_ear_74 (by decide) ?_
            refine lv_iload_n hx hb dX8_ear_76 rfl (lv_at hl 2 rfl) ?_
            refine lv_isub hx hb dX8_ear_77 ?_
            refine lv_iload_n hx hb dX8_ear_78 rfl (lv_at hl 3 rfl) ?_
            refine lv_iload hx hb dX8_ear_79 (lv_at hl 5 rfl) ?_
            obtain ⟨r14, hr14, hf⟩ := bi_some hf
            refine kz_s (n := 2) S hRf hRl hK hA hZ hP hD hS hl [] [.int a2, .int a4] [.int (10 - a1)] (kP_power l D cI cB cR cM cJ t [] a2 a4 r14 hr14) rfl rfl rfl gX8_ear_X8_power rfl (by decide +kernel) rfl ⟨by decide, by decide⟩ rfl (Nat.le_of_ble_eq_true rfl) dX8_ear_81 (fun H locs hP hD hS => ?_)
            replace hP : va_P D vwCl (pw uP uL uG uR uT uC uA uK uW uI cI cB cR cM cJ σP σL σG σR σT σC σA σK ω ι) H := hP
            replace hD : va_D A (pw uP uL uG uR uT uC uA uK uW uI cI cB cR cM cJ σP σL σG σR σT σC σA σK ω ι) := hD
            refine W.eq (g2 := F0 m 84 ls [.int r14, .int (10 - a1)]) rfl ?_
            refine lv_imul hx hb dX8_ear_84 ?_
            refine lv_bipush (v := 10) hx hb dX8_ear_85 (by decide) ?_
            refine lv_iload_n hx hb dX8_ear_87 rfl (lv_at hl 3 rfl) ?_
            refine lv_isub hx hb dX8_ear_88 ?_
            refine lv_iload_n hx hb dX8_ear_89 rfl (lv_at hl 4 rfl) ?_
            refine lv_iload hx hb dX8_ear_90 (lv_at hl 5 rfl) ?_
            refine lv_isub hx hb dX8_ear_92 ?_
            obtain ⟨r15, hr15, hf⟩ := bi_some hf
            refine kz_s (n := 2) S hRf hRl hK hA hZ hP hD hS hl [] [.int (10 - a2), .int (a3 - a4)] [.int ((10 - a1) * r14)] (kP_power l D cI cB cR cM cJ t [] (10 - a2) (a3 - a4) r15 hr15) rfl rfl rfl gX8_ear_X8_power rfl (by decide +kernel) rfl ⟨by decide, by decide⟩ rfl (Nat.le_of_ble_eq_true rfl) dX8_ear_93 (fun H locs hP hD hS => ?_)
            replace hP : va_P D vwCl (pw uP uL uG uR uT uC uA uK uW uI cI cB cR cM cJ σP σL σG σR σT σC σA σK ω ι) H := hP
            replace hD : va_D A (pw uP uL uG uR uT uC uA uK uW uI cI cB cR cM cJ σP σL σG σR σT σC σA σK ω ι) := hD
            refine W.eq (g2 := F0 m 96 ls [.int r15, .int ((10 - a1) * r14)]) rfl ?_
            refine lv_imul hx hb dX8_ear_96 ?_
            refine lv_topi (fun x16 ex16 => ?_)
            have hf := nm_at ex16 hf
            refine lv_istore (lv' := [(7, .int x16), (6, .int x13), (0, .ref (uP 0)), (1, .int a1), (2, .int a2), (3, .int a3), (4, .int a4), (5, .int a5)]) hx hb dX8_ear_97 hl (by decide) rfl (fun ls hl => ?_)
            refine lv_iload hx hb dX8_ear_99 (lv_at hl 1 rfl) ?_
            refine lv_if_ne (tgt := 115) hx hb dX8_ear_101 (by decide) (fun c17 => ?_) (fun c17 => ?_)
            · have hf := (if_neg c17).symm.trans hf
              refine lv_iload hx hb dX8_ear_115 (lv_at hl 1 rfl) ?_
              refine lv_iload hx hb dX8_ear_117 (lv_at hl 1 rfl) ?_
              refine lv_iload hx hb dX8_ear_119 (lv_at hl 0 rfl) ?_
              refine lv_iadd hx hb dX8_ear_121 ?_
              obtain ⟨r18, hr18, hf⟩ := bi_some hf
              refine kz_s (n := 2) S hRf hRl hK hA hZ hP hD hS hl [] [.int x13, .int (x13 + x16)] [] (kP_commonDivisor l D cI cB cR cM cJ t [] x13 (x13 + x16) r18 hr18) rfl rfl rfl gX8_ear_X8_commonDivisor rfl (by decide +kernel) rfl ⟨by decide, by decide⟩ rfl (Nat.le_of_ble_eq_true rfl) dX8_ear_122 (fun H locs hP hD hS => ?_)
              replace hP : va_P D vwCl (pw uP uL uG uR uT uC uA uK uW uI cI cB cR cM cJ σP σL σG σR σT σC σA σK ω ι) H := hP
              replace hD : va_D A (pw uP uL uG uR uT uC uA uK uW uI cI cB cR cM cJ σP σL σG σR σT σC σA σK ω ι) := hD
              refine W.eq (g2 := F0 m 125 ls [.int r18]) rfl ?_
              refine lv_istore (lv' := [(8, .int r18), (7, .int x16), (6, .int x13), (0, .ref (uP 0)), (1, .int a1), (2, .int a2), (3, .int a3), (4, .int a4), (5, .int a5)]) hx hb dX8_ear_125 hl (by decide) rfl (fun ls hl => ?_)
              refine lv_iload hx hb dX8_ear_127 (lv_at hl 8 rfl) ?_
              refine lv_if_ne (tgt := 137) hx hb dX8_ear_129 (by decide) (fun c19 => ?_) (fun c19 => ?_)
              · have hf := (if_neg c19).symm.trans hf
                refine lv_iload hx hb dX8_ear_137 (lv_at hl 2 rfl) ?_
                refine lv_iload hx hb dX8_ear_139 (lv_at hl 1 rfl) ?_
                refine lv_iadd hx hb dX8_ear_141 ?_
                exact b142 _ _ _ _ _ hf (lv_sub hl [0] rfl) hP hD hS
              · have hf := (if_pos c19).symm.trans hf
                refine lv_iload hx hb dX8_ear_132 (lv_at hl 2 rfl) ?_
                refine lv_goto (tgt := 142) hx hb dX8_ear_134 (by decide) ?_
                exact b142 _ _ _ _ _ hf (lv_sub hl [0] rfl) hP hD hS
            · have hf := (if_pos c17).symm.trans hf
              refine lv_iload hx hb dX8_ear_104 (lv_at hl 7 rfl) ?_
              refine lv_if_ne (tgt := 113) hx hb dX8_ear_106 (by decide) (fun c20 => ?_) (fun c20 => ?_)
              · have hf := (if_neg c20).symm.trans hf
                refine lv_iconst (v := 1) hx hb dX8_ear_113 (by decide) ?_
                exact hre _ _ _ _ _ hf hP hD hS dX8_ear_114
              · have hf := (if_pos c20).symm.trans hf
                refine lv_iconst (v := 0) hx hb dX8_ear_109 (by decide) ?_
                refine lv_goto (tgt := 114) hx hb dX8_ear_110 (by decide) ?_
                exact hre _ _ _ _ _ hf hP hD hS dX8_ear_114
          · have hf := (if_neg c10).symm.trans hf
            refine lv_ldc (v := (-1000001)) hx hb hown c80 dX8_ear_49 ?_
            exact hre _ _ _ _ _ hf hP hD hS dX8_ear_51
