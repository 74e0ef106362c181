set_option maxHeartbeats 4000000 in
set_option maxRecDepth 100000 in
theorem kR_init (l : Launch) (D : va_G) (cI cB cR cM cJ : ClassId) (b : Nat) : KN l D (ctys cI cB cR cM cJ) yX4_init wsX4_init 2 40 2 506 [.ref b] [(b, .inr (3, [.null, .int 0, .int 0, .int 0]))] (fun w1 => ∃ u uT : Nat → Nat, u 0 = b ∧ w1 = xR u uT cI cB cR cM cJ s0 ++ xT uT cI cB cR cM cJ s0) := by
  refine KN.of (own := RX4) (cc := cX4_init) (maxL := 1) (by decide) rfl rfl rfl (Nat.le_of_ble_eq_true rfl) ?_
  intro p e s m args below meth c R Q A ls S hni hRf hRl hRc hRs hK hA hP hD hS hl hN hret
  obtain ⟨hx, hb, hml, hown, hts⟩ := id S
  have hinX4 : ∀ w ∈ wsX40, w ∈ wsX4_init := by decide +kernel
  have hinX7 : ∀ w ∈ wsX70, w ∈ wsX4_init := by decide +kernel
  have oC := hts (.code objectInit ⟨#[0xb1]⟩ 1 none) (by first | exact List.mem_cons_of_mem _ (List.mem_append_left _ (List.mem_of_getElem? (i := 2) rfl)) | decide +kernel)
  have oL := hts (.methodLink RX4 1 objectInit) (by decide +kernel)
  have oI := hts (.instanceMethod objectInit) (by decide +kernel)
  have cl7 := hts (.classLink RX4 7 RX7) (by decide +kernel)
  have insX7 := hts (.instantiable RX7 6) (by decide +kernel)
  have iniX7 := hts (.initialized RX7) (by decide +kernel)
  have imX7 := hts (.instanceMethod yX7_init) (by decide +kernel)
  have f10 := hts (.fieldLink RX4 10 "PenniesAway$Reader" "text" "LPenniesAway$Tape;") (by decide +kernel)
  have f16 := hts (.fieldLink RX4 16 "PenniesAway$Reader" "taken" "I") (by decide +kernel)
  have f20 := hts (.fieldLink RX4 20 "PenniesAway$Reader" "faultNumber" "I") (by decide +kernel)
  have f23 := hts (.fieldLink RX4 23 "PenniesAway$Reader" "faultPlace" "I") (by decide +kernel)
  have hl : lv_has ls 1 [(0, .ref b)] := hl
  refine lv_aload_n hx hb dX4_init_0 rfl (lv_at hl 0 rfl) ?_
  refine W.objInit hx hb hown oL oI oC rfl (by rw [hml]; exact hl.1) rfl dX4_init_1 (by rw [hRf]; decide) (by rw [hRl]; exact Nat.le_of_ble_eq_true rfl) ?_
  refine W.eq (g2 := F0 m 4 ls []) rfl ?_
  refine lv_aload_n hx hb dX4_init_4 rfl (lv_at hl 0 rfl) ?_
  refine va_new (ci := 6) (fs := [.null, .int 0, .int 0, .int 0, .int 0, .int 0]) (C := RX7) (T := TX7) (N := 6) hx hb hts hinX7 tyX7 tyX7_ok hown cl7 insX7 iniX7 hK hP hD hS hA rfl (fun j hj => by rcases (show (j = 0 ∨ j = 1 ∨ j = 2 ∨ j = 3 ∨ j = 4 ∨ j = 5) by omega) with rfl | rfl | rfl | rfl | rfl | rfl <;> rfl) (by rw [hRc]; decide) (by rw [hRs]; decide) dX4_init_5 (fun q1 H hP hD hS => ?_)
  refine lv_dup hx hb dX4_init_8 rfl ?_
  refine kn_in (wr := [(b, .inr (3, [.null, .int 0, .int 0, .int 0]))]) S hRf hRl hRc hRs hK hA hN hP hD hS hl [.ref q1, .ref b] (kT_init l D cI cB cR cM cJ q1) hN.1 gX4_init_X7_init_n9 rfl iniX7 imX7 (by decide +kernel) rfl ⟨by decide, by decide⟩ ⟨by decide, by decide⟩ rfl (Nat.le_of_ble_eq_true rfl) dX4_init_9 (fun w1 H locs hX hP hD hS => ?_)
  obtain ⟨uT, huT, rfl⟩ := hX
  rw [← huT]
  refine va_putF (D := D) (ci := 3) (v := .ref (uT 0)) (ty := .object "PenniesAway$Tape") (C := RX4) (T := TX4) (N := 4) hx hb hts hinX4 tyX4 tyX4_ok nmX4 hown hK hP hD hS 0 rfl rfl 0 (by decide) f10 (fun _ h9 => h9) rfl hni rfl (by decide +kernel) rfl rfl (Nat.le_of_ble_eq_true rfl) dX4_init_12 (fun H locs hP hD hS => ?_)
  replace hP : va_P D vwCl ([(b, .inr (3, [.ref (uT 0), .int 0, .int 0, .int 0]))] ++ xT uT cI cB cR cM cJ s0) H := hP
  replace hD : va_D A ([(b, .inr (3, [.ref (uT 0), .int 0, .int 0, .int 0]))] ++ xT uT cI cB cR cM cJ s0) := hD
  refine lv_aload_n hx hb dX4_init_15 rfl (lv_at hl 0 rfl) ?_
  refine lv_iconst (v := 0) hx hb dX4_init_16 (by decide) ?_
  refine va_put (D := D) (ci := 3) (v := .int 0) (ty := .int) (C := RX4) (T := TX4) (N := 4) hx hb hts hinX4 tyX4 tyX4_ok nmX4 hown hK hP hD hS 0 rfl rfl 1 (by decide) f16 (fun _ h9 => h9) rfl (by decide +kernel) rfl rfl (Nat.le_of_ble_eq_true rfl) dX4_init_17 (fun H locs hP hD hS => ?_)
  replace hP : va_P D vwCl ([(b, .inr (3, [.ref (uT 0), .int 0, .int 0, .int 0]))] ++ xT uT cI cB cR cM cJ s0) H := hP
  replace hD : va_D A ([(b, .inr (3, [.ref (uT 0), .int 0, .int 0, .int 0]))] ++ xT uT cI cB cR cM cJ s0) := hD
  refine lv_aload_n hx hb dX4_init_20 rfl (lv_at hl 0 rfl) ?_
  refine lv_iconst (v := 0) hx hb dX4_init_21 (by decide) ?_
  refine va_put (D := D) (ci := 3) (v := .int 0) (ty := .int) (C := RX4) (T := TX4) (N := 4) hx hb hts hinX4 tyX4 tyX4_ok nmX4 hown hK hP hD hS 0 rfl rfl 2 (by decide) f20 (fun _ h9 => h9) rfl (by decide +kernel) rfl rfl (Nat.le_of_ble_eq_true rfl) dX4_init_22 (fun H locs hP hD hS => ?_)
  replace hP : va_P D vwCl ([(b, .inr (3, [.ref (uT 0), .int 0, .int 0, .int 0]))] ++ xT uT cI cB cR cM cJ s0) H := hP
  replace hD : va_D A ([(b, .inr (3, [.ref (uT 0), .int 0, .int 0, .int 0]))] ++ xT uT cI cB cR cM cJ s0) := hD
  refine lv_aload_n hx hb dX4_init_25 rfl (lv_at hl 0 rfl) ?_
  refine lv_iconst (v := 0) hx hb dX4_init_26 (by decide) ?_
  refine va_put (D := D) (ci := 3) (v := .int 0) (ty := .int) (C := RX4) (T := TX4) (N := 4) hx hb hts hinX4 tyX4 tyX4_ok nmX4 hown hK hP hD hS 0 rfl rfl 3 (by decide) f23 (fun _ h9 => h9) rfl (by decide +kernel) rfl rfl (Nat.le_of_ble_eq_true rfl) dX4_init_27 (fun H locs hP hD hS => ?_)
  replace hP : va_P D vwCl ([(b, .inr (3, [.ref (uT 0), .int 0, .int 0, .int 0]))] ++ xT uT cI cB cR cM cJ s0) H := hP
  replace hD : va_D A ([(b, .inr (3, [.ref (uT 0), .int 0, .int 0, .int 0]))] ++ xT uT cI cB cR cM cJ s0) := hD
  exact hret _ _ _ _ _ ⟨fun _ => b, uT, rfl, rfl⟩ hP hD hS dX4_init_30
theorem pl_rows {l : List Nat} {f : Nat → va_E} {v : va_E} : va_pl ([] ++ l) (vr_up f l v) = l.map (fun a => (a, v)) := by
  unfold va_pl
  rw [List.nil_append]
  exact List.map_congr_left (fun a ha => by rw [vr_up_in ha])
theorem inner0 (c : ClassId) (K : Nat) : Jvm.Free.Multi.innerC c K (defaultValue .int) = vp_cell c (K, .inl (fun _ => 0)) := by
  show ({ cls := c, slots := Array.replicate K (defaultValue .int), vm := .none } : Cell) = _
  rw [arrV_new]; rfl
set_option maxHeartbeats 4000000 in
set_option maxRecDepth 100000 in
theorem kK_init (l : Launch) (D : va_G) (cI cB cR cM cJ : ClassId) (b : Nat) : KN l D (ctys cI cB cR cM cJ) yX0_init wsX0_init 1 20 25 1488 [.ref b] [(b, .inr (0, [.null, .int 0, .int 0]))] (fun w1 => ∃ u : Nat → Nat, u 0 = b ∧ w1 = xK u cI cB cR cM cJ s0) := by
  refine KN.of (own := RX0) (cc := cX0_init) (maxL := 1) (by decide) rfl rfl rfl (Nat.le_of_ble_eq_true rfl) ?_
  intro p e s m args below meth c R Q A ls S hni hRf hRl hRc hRs hK hA hP hD hS hl hN hret
  obtain ⟨hx, hb, hml, hown, hts⟩ := id S
  have hin : ∀ w ∈ wsX00, w ∈ wsX0_init := fun w hw => List.mem_cons_of_mem _ (List.mem_append_right _ hw)
  have oC := hts (.code objectInit ⟨#[0xb1]⟩ 1 none) (by first | exact List.mem_cons_of_mem _ (List.mem_append_left _ (List.mem_of_getElem? (i := 2) rfl)) | decide +kernel)
  have oL := hts (.methodLink RX0 1 objectInit) (by decide +kernel)
  have oI := hts (.instanceMethod objectInit) (by decide +kernel)
  have cl11 := hts (.classLink RX0 11 "[[I") (by decide +kernel)
  have arint := hts (.arrayClass .int) (by decide +kernel)
  have f13 := hts (.fieldLink RX0 13 "PenniesAway$Acts" "before" "[[I") (by decide +kernel)
  have f16 := hts (.fieldLink RX0 16 "PenniesAway$Acts" "next" "I") (by decide +kernel)
  have f20 := hts (.fieldLink RX0 20 "PenniesAway$Acts" "kept" "I") (by decide +kernel)
  have hl : lv_has ls 1 [(0, .ref b)] := hl
  refine lv_aload_n hx hb dX0_init_0 rfl (lv_at hl 0 rfl) ?_
  refine W.objInit hx hb hown oL oI oC rfl (by rw [hml]; exact hl.1) rfl dX0_init_1 (by rw [hRf]; decide) (by rw [hRl]; exact Nat.le_of_ble_eq_true rfl) ?_
  refine W.eq (g2 := F0 m 4 ls []) rfl ?_
  refine lv_aload_n hx hb dX0_init_4 rfl (lv_at hl 0 rfl) ?_
  refine lv_bipush (v := 24) hx hb dX0_init_5 (by decide) ?_
  refine lv_bipush (v := 61) hx hb dX0_init_7 (by decide) ?_
  have hcy : s.vm.findClass (FieldType.array FieldType.int).toString = some cI := (hK.2 0 (cI, .int) rfl).2
  refine va_mna (X := [(b, .inr (0, [.null, .int 0, .int 0]))]) (L := []) (f := fun _ => .inr (0, [])) (ty := .int) (cy := cI) (N' := 24) (K' := 61) (z := (61, .inl (fun _ => 0))) hx hb hown cl11 hN.2.2.2.2.2.2.2.2.2 arint hcy hK hP hD hS hA (by decide) (by decide) (by decide) (by decide) (by decide) (by decide) (by decide) rfl rfl (by rw [hRc]; decide) (by rw [hRs]; decide) (fun c => inner0 c 61) dX0_init_9 (fun q r cA H _ _ hK1 hP hD hS => ?_)
  have ecA : cA = cJ := Option.some.inj (((hK1.2 5 (cA, .array .int) rfl).2).symm.trans (hK.2 4 (cJ, .array .int) rfl).2)
  subst ecA
  rw [pl_rows] at hP hD
  refine va_putF (D := D) (ci := 0) (v := .ref q) (ty := .array (.array .int)) (C := RX0) (T := TX0) (N := 3) hx hb hts hin tyX0 tyX0_ok nmX0 hown hK hP hD hS 0 rfl rfl 0 (by decide) f13 (fun _ h9 => h9) rfl hni rfl (by decide +kernel) rfl rfl (Nat.le_of_ble_eq_true rfl) dX0_init_13 (fun H locs hP hD hS => ?_)
  replace hP : va_P D vwCl (xK (fun k => if k = 0 then b else if k = 1 then q else r (k - 2)) cI cB cR cM cA s0) H := hP
  replace hD : va_D A (xK (fun k => if k = 0 then b else if k = 1 then q else r (k - 2)) cI cB cR cM cA s0) := hD
  refine lv_aload_n hx hb dX0_init_16 rfl (lv_at hl 0 rfl) ?_
  refine lv_iconst (v := 0) hx hb dX0_init_17 (by decide) ?_
  refine va_put (D := D) (ci := 0) (v := .int 0) (ty := .int) (C := RX0) (T := TX0) (N := 3) hx hb hts hin tyX0 tyX0_ok nmX0 hown hK hP hD hS 0 rfl rfl 1 (by decide) f16 (fun _ h9 => h9) rfl (by decide +kernel) rfl rfl (Nat.le_of_ble_eq_true rfl) dX0_init_18 (fun H locs hP hD hS => ?_)
  replace hP : va_P D vwCl (xK (fun k => if k = 0 then b else if k = 1 then q else r (k - 2)) cI cB cR cM cA s0) H := hP
  replace hD : va_D A (xK (fun k => if k = 0 then b else if k = 1 then q else r (k - 2)) cI cB cR cM cA s0) := hD
  refine lv_aload_n hx hb dX0_init_21 rfl (lv_at hl 0 rfl) ?_
  refine lv_iconst (v := 0) hx hb dX0_init_22 (by decide) ?_
  refine va_put (D := D) (ci := 0) (v := .int 0) (ty := .int) (C := RX0) (T := TX0) (N := 3) hx hb hts hin tyX0 tyX0_ok nmX0 hown hK hP hD hS 0 rfl rfl 2 (by decide) f20 (fun _ h9 => h9) rfl (by decide +kernel) rfl rfl (Nat.le_of_ble_eq_true rfl) dX0_init_23 (fun H locs hP hD hS => ?_)
  replace hP : va_P D vwCl (xK (fun k => if k = 0 then b else if k = 1 then q else r (k - 2)) cI cB cR cM cA s0) H := hP
  replace hD : va_D A (xK (fun k => if k = 0 then b else if k = 1 then q else r (k - 2)) cI cB cR cM cA s0) := hD
  exact hret _ _ _ _ _ ⟨(fun k => if k = 0 then b else if k = 1 then q else r (k - 2)), rfl, rfl⟩ hP hD hS dX0_init_26
