/-- a fresh state: all 0 -/
theorem arr0_int (n : Nat) (cA : ClassId) : vp_cell cA (n, .inl (fun _ => 0)) = arrV cA n (fun _ => defaultValue .int) := rfl
theorem arr0_byte (n : Nat) (cA : ClassId) : vp_cell cA (n, .inl (fun _ => 0)) = arrV cA n (fun _ => defaultValue .byte) := rfl
theorem arr0_boolean (n : Nat) (cA : ClassId) : vp_cell cA (n, .inl (fun _ => 0)) = arrV cA n (fun _ => defaultValue .boolean) := rfl
def s0 : MS := (fun _ => 0, fun _ _ => 0)
def s0C : MS := (fun k => if k = 3 then -1000000 else 0, fun _ _ => 0)
def s0W : MS := (fun k => if k = 1 then -1 else 0, fun _ _ => 0)
def s0M : MS := (fun _ => 0, fun k => if k = 2 then (upd (upd (upd (upd (upd (upd (upd (upd (fun _ => 0) 0 (-1)) 1 (-1)) 2 (-1)) 3 (-1)) 4 (-1)) 5 (-1)) 6 (-1)) 7 (-1)) else fun _ => 0)
set_option maxHeartbeats 4000000 in
set_option maxRecDepth 100000 in
theorem kW_init (l : Launch) (D : va_G) (cI cB cR cM cJ : ClassId) (b : Nat) : KN l D (ctys cI cB cR cM cJ) yX6_init wsX6_init 1 20 1 40 [.ref b] [(b, .inr (5, [.null, .int 0, .int 0]))] (fun w1 => ∃ u : Nat → Nat, u 0 = b ∧ w1 = xW u cI cB cR cM cJ s0W) := by
  refine KN.of (own := RX6) (cc := cX6_init) (maxL := 1) (by decide) rfl rfl rfl (Nat.le_of_ble_eq_true rfl) ?_
  intro p e s m args below meth c R Q A ls S hni hRf hRl hRc hRs hK hA hP hD hS hl hN hret
  obtain ⟨hx, hb, hml, hown, hts⟩ := id S
  have hin : ∀ w ∈ wsX60, w ∈ wsX6_init := fun w hw => List.mem_cons_of_mem _ (List.mem_append_right _ hw)
  have oC := hts (.code objectInit ⟨#[0xb1]⟩ 1 none) (List.mem_cons_of_mem _ (List.mem_append_left _ (List.mem_of_getElem? (i := 2) rfl)))
  have oL := hts (.methodLink RX6 1 objectInit) (by decide +kernel)
  have oI := hts (.instanceMethod objectInit) (by decide +kernel)
  have arint := hts (.arrayClass .int) (by decide +kernel)
  have f9 := hts (.fieldLink RX6 9 "PenniesAway$Row" "items" "[I") (by decide +kernel)
  have f13 := hts (.fieldLink RX6 13 "PenniesAway$Row" "lane" "I") (by decide +kernel)
  have f17 := hts (.fieldLink RX6 17 "PenniesAway$Row" "size" "I") (by decide +kernel)
  have hl : lv_has ls 1 [(0, .ref b)] := hl
  refine lv_aload_n hx hb dX6_init_0 rfl (lv_at hl 0 rfl) ?_
  refine W.objInit hx hb hown oL oI oC rfl (by rw [hml]; exact hl.1) rfl dX6_init_1 (by rw [hRf]; decide) (by rw [hRl]; exact Nat.le_of_ble_eq_true rfl) ?_
  refine W.eq (g2 := F0 m 4 ls []) rfl ?_
  refine lv_aload_n hx hb dX6_init_4 rfl (lv_at hl 0 rfl) ?_
  refine lv_bipush (v := 40) hx hb dX6_init_5 (by decide) ?_
  refine kn_newa (atype := .int) (n := 40) (N' := 40) (cX := cI) (ty := .int) hx hb arint rfl hK hP hD hS hA hRc hRs 0 rfl (fun _ a1 a2 => Option.some.inj (a1.symm.trans a2)) (arr0_int 40) (by decide) (by decide) (by decide) ⟨by decide, by decide⟩ dX6_init_7 (fun q1 H hP hD hS => ?_)
  replace hP : va_P D vwCl [(b, .inr (5, [.null, .int 0, .int 0])), (q1, .inl (cI, 40, .inl (fun _ => 0)))] H := hP
  replace hD : va_D A [(b, .inr (5, [.null, .int 0, .int 0])), (q1, .inl (cI, 40, .inl (fun _ => 0)))] := hD
  refine va_putF (D := D) (ci := 5) (v := .ref q1) (ty := .array .int) (C := RX6) (T := TX6) (N := 3) hx hb hts hin tyX6 tyX6_ok nmX6 hown hK hP hD hS 0 rfl rfl 0 (by decide) f9 (fun _ h9 => h9) rfl hni rfl (by decide +kernel) rfl rfl (Nat.le_of_ble_eq_true rfl) dX6_init_9 (fun H locs hP hD hS => ?_)
  replace hP : va_P D vwCl [(b, .inr (5, [.ref q1, .int 0, .int 0])), (q1, .inl (cI, 40, .inl (fun _ => 0)))] H := hP
  replace hD : va_D A [(b, .inr (5, [.ref q1, .int 0, .int 0])), (q1, .inl (cI, 40, .inl (fun _ => 0)))] := hD
  refine lv_aload_n hx hb dX6_init_12 rfl (lv_at hl 0 rfl) ?_
  refine lv_iconst (v := (-1)) hx hb dX6_init_13 (by decide) ?_
  refine va_put (D := D) (ci := 5) (v := .int (-1)) (ty := .int) (C := RX6) (T := TX6) (N := 3) hx hb hts hin tyX6 tyX6_ok nmX6 hown hK hP hD hS 0 rfl rfl 1 (by decide) f13 (fun _ h9 => h9) rfl (by decide +kernel) rfl rfl (Nat.le_of_ble_eq_true rfl) dX6_init_14 (fun H locs hP hD hS => ?_)
  replace hP : va_P D vwCl [(b, .inr (5, [.ref q1, .int (-1), .int 0])), (q1, .inl (cI, 40, .inl (fun _ => 0)))] H := hP
  replace hD : va_D A [(b, .inr (5, [.ref q1, .int (-1), .int 0])), (q1, .inl (cI, 40, .inl (fun _ => 0)))] := hD
  refine lv_aload_n hx hb dX6_init_17 rfl (lv_at hl 0 rfl) ?_
  refine lv_iconst (v := 0) hx hb dX6_init_18 (by decide) ?_
  refine va_put (D := D) (ci := 5) (v := .int 0) (ty := .int) (C := RX6) (T := TX6) (N := 3) hx hb hts hin tyX6 tyX6_ok nmX6 hown hK hP hD hS 0 rfl rfl 2 (by decide) f17 (fun _ h9 => h9) rfl (by decide +kernel) rfl rfl (Nat.le_of_ble_eq_true rfl) dX6_init_19 (fun H locs hP hD hS => ?_)
  replace hP : va_P D vwCl [(b, .inr (5, [.ref q1, .int (-1), .int 0])), (q1, .inl (cI, 40, .inl (fun _ => 0)))] H := hP
  replace hD : va_D A [(b, .inr (5, [.ref q1, .int (-1), .int 0])), (q1, .inl (cI, 40, .inl (fun _ => 0)))] := hD
  exact hret _ _ _ _ _ ⟨fun k => if k = 1 then q1 else b, rfl, rfl⟩ hP hD hS dX6_init_22
set_option maxHeartbeats 4000000 in
set_option maxRecDepth 100000 in
theorem kT_init (l : Launch) (D : va_G) (cI cB cR cM cJ : ClassId) (b : Nat) : KN l D (ctys cI cB cR cM cJ) yX7_init wsX7_init 1 20 1 500 [.ref b] [(b, .inr (6, [.null, .int 0, .int 0, .int 0, .int 0, .int 0]))] (fun w1 => ∃ u : Nat → Nat, u 0 = b ∧ w1 = xT u cI cB cR cM cJ s0) := by
  refine KN.of (own := RX7) (cc := cX7_init) (maxL := 1) (by decide) rfl rfl rfl (Nat.le_of_ble_eq_true rfl) ?_
  intro p e s m args below meth c R Q A ls S hni hRf hRl hRc hRs hK hA hP hD hS hl hN hret
  obtain ⟨hx, hb, hml, hown, hts⟩ := id S
  have hin : ∀ w ∈ wsX70, w ∈ wsX7_init := fun w hw => List.mem_cons_of_mem _ (List.mem_append_right _ hw)
  have oC := hts (.code objectInit ⟨#[0xb1]⟩ 1 none) (List.mem_cons_of_mem _ (List.mem_append_left _ (List.mem_of_getElem? (i := 2) rfl)))
  have oL := hts (.methodLink RX7 1 objectInit) (by decide +kernel)
  have oI := hts (.instanceMethod objectInit) (by decide +kernel)
  have arbyte := hts (.arrayClass .byte) (by decide +kernel)
  have f9 := hts (.fieldLink RX7 9 "PenniesAway$Tape" "bytes" "[B") (by decide +kernel)
  have f13 := hts (.fieldLink RX7 13 "PenniesAway$Tape" "length" "I") (by decide +kernel)
  have f17 := hts (.fieldLink RX7 17 "PenniesAway$Tape" "sort" "I") (by decide +kernel)
  have f20 := hts (.fieldLink RX7 20 "PenniesAway$Tape" "start" "I") (by decide +kernel)
  have f23 := hts (.fieldLink RX7 23 "PenniesAway$Tape" "number" "I") (by decide +kernel)
  have f26 := hts (.fieldLink RX7 26 "PenniesAway$Tape" "end" "I") (by decide +kernel)
  have hl : lv_has ls 1 [(0, .ref b)] := hl
  refine lv_aload_n hx hb dX7_init_0 rfl (lv_at hl 0 rfl) ?_
  refine W.objInit hx hb hown oL oI oC rfl (by rw [hml]; exact hl.1) rfl dX7_init_1 (by rw [hRf]; decide) (by rw [hRl]; exact Nat.le_of_ble_eq_true rfl) ?_
  refine W.eq (g2 := F0 m 4 ls []) rfl ?_
  refine lv_aload_n hx hb dX7_init_4 rfl (lv_at hl 0 rfl) ?_
  refine lv_sipush (v := 500) hx hb dX7_init_5 (by decide) ?_
  refine kn_newa (atype := .byte) (n := 500) (N' := 500) (cX := cB) (ty := .byte) hx hb arbyte rfl hK hP hD hS hA hRc hRs 1 rfl (fun _ a1 a2 => Option.some.inj (a1.symm.trans a2)) (arr0_byte 500) (by decide) (by decide) (by decide) ⟨by decide, by decide⟩ dX7_init_8 (fun q1 H hP hD hS => ?_)
  replace hP : va_P D vwCl [(b, .inr (6, [.null, .int 0, .int 0, .int 0, .int 0, .int 0])), (q1, .inl (cB, 500, .inl (fun _ => 0)))] H := hP
  replace hD : va_D A [(b, .inr (6, [.null, .int 0, .int 0, .int 0, .int 0, .int 0])), (q1, .inl (cB, 500, .inl (fun _ => 0)))] := hD
  refine va_putF (D := D) (ci := 6) (v := .ref q1) (ty := .array .byte) (C := RX7) (T := TX7) (N := 6) hx hb hts hin tyX7 tyX7_ok nmX7 hown hK hP hD hS 0 rfl rfl 0 (by decide) f9 (fun _ h9 => h9) rfl hni rfl (by decide +kernel) rfl rfl (Nat.le_of_ble_eq_true rfl) dX7_init_10 (fun H locs hP hD hS => ?_)
  replace hP : va_P D vwCl [(b, .inr (6, [.ref q1, .int 0, .int 0, .int 0, .int 0, .int 0])), (q1, .inl (cB, 500, .inl (fun _ => 0)))] H := hP
  replace hD : va_D A [(b, .inr (6, [.ref q1, .int 0, .int 0, .int 0, .int 0, .int 0])), (q1, .inl (cB, 500, .inl (fun _ => 0)))] := hD
  refine lv_aload_n hx hb dX7_init_13 rfl (lv_at hl 0 rfl) ?_
  refine lv_iconst (v := 0) hx hb dX7_init_14 (by decide) ?_
  refine va_put (D := D) (ci := 6) (v := .int 0) (ty := .int) (C := RX7) (T := TX7) (N := 6) hx hb hts hin tyX7 tyX7_ok nmX7 hown hK hP hD hS 0 rfl rfl 1 (by decide) f13 (fun _ h9 => h9) rfl (by decide +kernel) rfl rfl (Nat.le_of_ble_eq_true rfl) dX7_init_15 (fun H locs hP hD hS => ?_)
  replace hP : va_P D vwCl [(b, .inr (6, [.ref q1, .int 0, .int 0, .int 0, .int 0, .int 0])), (q1, .inl (cB, 500, .inl (fun _ => 0)))] H := hP
  replace hD : va_D A [(b, .inr (6, [.ref q1, .int 0, .int 0, .int 0, .int 0, .int 0])), (q1, .inl (cB, 500, .inl (fun _ => 0)))] := hD
  refine lv_aload_n hx hb dX7_init_18 rfl (lv_at hl 0 rfl) ?_
  refine lv_iconst (v := 0) hx hb dX7_init_19 (by decide) ?_
  refine va_put (D := D) (ci := 6) (v := .int 0) (ty := .int) (C := RX7) (T := TX7) (N := 6) hx hb hts hin tyX7 tyX7_ok nmX7 hown hK hP hD hS 0 rfl rfl 2 (by decide) f17 (fun _ h9 => h9) rfl (by decide +kernel) rfl rfl (Nat.le_of_ble_eq_true rfl) dX7_init_20 (fun H locs hP hD hS => ?_)
  replace hP : va_P D vwCl [(b, .inr (6, [.ref q1, .int 0, .int 0, .int 0, .int 0, .int 0])), (q1, .inl (cB, 500, .inl (fun _ => 0)))] H := hP
  replace hD : va_D A [(b, .inr (6, [.ref q1, .int 0, .int 0, .int 0, .int 0, .int 0])), (q1, .inl (cB, 500, .inl (fun _ => 0)))] := hD
  refine lv_aload_n hx hb dX7_init_23 rfl (lv_at hl 0 rfl) ?_
  refine lv_iconst (v := 0) hx hb dX7_init_24 (by decide) ?_
  refine va_put (D := D) (ci := 6) (v := .int 0) (ty := .int) (C := RX7) (T := TX7) (N := 6) hx hb hts hin tyX7 tyX7_ok nmX7 hown hK hP hD hS 0 rfl rfl 3 (by decide) f20 (fun _ h9 => h9) rfl (by decide +kernel) rfl rfl (Nat.le_of_ble_eq_true rfl) dX7_init_25 (fun H locs hP hD hS => ?_)
  replace hP : va_P D vwCl [(b, .inr (6, [.ref q1, .int 0, .int 0, .int 0, .int 0, .int 0])), (q1, .inl (cB, 500, .inl (fun _ => 0)))] H := hP
  replace hD : va_D A [(b, .inr (6, [.ref q1, .int 0, .int 0, .int 0, .int 0, .int 0])), (q1, .inl (cB, 500, .inl (fun _ => 0)))] := hD
  refine lv_aload_n hx hb dX7_init_28 rfl (lv_at hl 0 rfl) ?_
  refine lv_iconst (v := 0) hx hb dX7_init_29 (by decide) ?_
  refine va_put (D := D) (ci := 6) (v := .int 0) (ty := .int) (C := RX7) (T := TX7) (N := 6) hx hb hts hin tyX7 tyX7_ok nmX7 hown hK hP hD hS 0 rfl rfl 4 (by decide) f23 (fun _ h9 => h9) rfl (by decide +kernel) rfl rfl (Nat.le_of_ble_eq_true rfl) dX7_init_30 (fun H locs hP hD hS => ?_)
  replace hP : va_P D vwCl [(b, .inr (6, [.ref q1, .int 0, .int 0, .int 0, .int 0, .int 0])), (q1, .inl (cB, 500, .inl (fun _ => 0)))] H := hP
  replace hD : va_D A [(b, .inr (6, [.ref q1, .int 0, .int 0, .int 0, .int 0, .int 0])), (q1, .inl (cB, 500, .inl (fun _ => 0)))] := hD
  refine lv_aload_n hx hb dX7_init_33 rfl (lv_at hl 0 rfl) ?_
  refine lv_iconst (v := 0) hx hb dX7_init_34 (by decide) ?_
  refine va_put (D := D) (ci := 6) (v := .int 0) (ty := .int) (C := RX7) (T := TX7) (N := 6) hx hb hts hin tyX7 tyX7_ok nmX7 hown hK hP hD hS 0 rfl rfl 5 (by decide) f26 (fun _ h9 => h9) rfl (by decide +kernel) rfl rfl (Nat.le_of_ble_eq_true rfl) dX7_init_35 (fun H locs hP hD hS => ?_)
  replace hP : va_P D vwCl [(b, .inr (6, [.ref q1, .int 0, .int 0, .int 0, .int 0, .int 0])), (q1, .inl (cB, 500, .inl (fun _ => 0)))] H := hP
  replace hD : va_D A [(b, .inr (6, [.ref q1, .int 0, .int 0, .int 0, .int 0, .int 0])), (q1, .inl (cB, 500, .inl (fun _ => 0)))] := hD
  exact hret _ _ _ _ _ ⟨fun k => if k = 1 then q1 else b, rfl, rfl⟩ hP hD hS dX7_init_38
set_option maxHeartbeats 4000000 in
set_option maxRecDepth 100000 in
theorem kL_init (l : Launch) (D : va_G) (cI cB cR cM cJ : ClassId) (b : Nat) : KN l D (ctys cI cB cR cM cJ) yX5_init wsX5_init 1 20 4 143 [.ref b] [(b, .inr (4, [.null, .null, .null, .null, .int 0, .int 0, .int 0, .int 0]))] (fun w1 => ∃ u : Nat → Nat, u 0 = b ∧ w1 = xL u cI cB cR cM cJ s0) := by
  refine KN.of (own := RX5) (cc := cX5_init) (maxL := 1) (by decide) rfl rfl rfl (Nat.le_of_ble_eq_true rfl) ?_
  intro p e s m args below meth c R Q A ls S hni hRf hRl hRc hRs hK hA hP hD hS hl hN hret
  obtain ⟨hx, hb, hml, hown, hts⟩ := id S
  have hin : ∀ w ∈ wsX50, w ∈ wsX5_init := fun w hw => List.mem_cons_of_mem _ (List.mem_append_right _ hw)
  have oC := hts (.code objectInit ⟨#[0xb1]⟩ 1 none) (List.mem_cons_of_mem _ (List.mem_append_left _ (List.mem_of_getElem? (i := 2) rfl)))
  have oL := hts (.methodLink RX5 3 objectInit) (by decide +kernel)
  have oI := hts (.instanceMethod objectInit) (by decide +kernel)
  have arint := hts (.arrayClass .int) (by decide +kernel)
  have f11 := hts (.fieldLink RX5 11 "PenniesAway$Realm" "ways" "[I") (by decide +kernel)
  have f15 := hts (.fieldLink RX5 15 "PenniesAway$Realm" "towns" "[I") (by decide +kernel)
  have f18 := hts (.fieldLink RX5 18 "PenniesAway$Realm" "kinds" "[I") (by decide +kernel)
  have f21 := hts (.fieldLink RX5 21 "PenniesAway$Realm" "changing" "[I") (by decide +kernel)
  have f24 := hts (.fieldLink RX5 24 "PenniesAway$Realm" "told" "Z") (by decide +kernel)
  have f28 := hts (.fieldLink RX5 28 "PenniesAway$Realm" "leave" "I") (by decide +kernel)
  have f32 := hts (.fieldLink RX5 32 "PenniesAway$Realm" "holders" "I") (by decide +kernel)
  have f35 := hts (.fieldLink RX5 35 "PenniesAway$Realm" "coins" "I") (by decide +kernel)
  have hl : lv_has ls 1 [(0, .ref b)] := hl
  refine lv_aload_n hx hb dX5_init_0 rfl (lv_at hl 0 rfl) ?_
  refine W.objInit hx hb hown oL oI oC rfl (by rw [hml]; exact hl.1) rfl dX5_init_1 (by rw [hRf]; decide) (by rw [hRl]; exact Nat.le_of_ble_eq_true rfl) ?_
  refine W.eq (g2 := F0 m 4 ls []) rfl ?_
  refine lv_aload_n hx hb dX5_init_4 rfl (lv_at hl 0 rfl) ?_
  refine lv_bipush (v := 64) hx hb dX5_init_5 (by decide) ?_
  refine kn_newa (atype := .int) (n := 64) (N' := 64) (cX := cI) (ty := .int) hx hb arint rfl hK hP hD hS hA hRc hRs 0 rfl (fun _ a1 a2 => Option.some.inj (a1.symm.trans a2)) (arr0_int 64) (by decide) (by decide) (by decide) ⟨by decide, by decide⟩ dX5_init_7 (fun q1 H hP hD hS => ?_)
  replace hP : va_P D vwCl [(b, .inr (4, [.null, .null, .null, .null, .int 0, .int 0, .int 0, .int 0])), (q1, .inl (cI, 64, .inl (fun _ => 0)))] H := hP
  replace hD : va_D A [(b, .inr (4, [.null, .null, .null, .null, .int 0, .int 0, .int 0, .int 0])), (q1, .inl (cI, 64, .inl (fun _ => 0)))] := hD
  refine va_putF (D := D) (ci := 4) (v := .ref q1) (ty := .array .int) (C := RX5) (T := TX5) (N := 8) hx hb hts hin tyX5 tyX5_ok nmX5 hown hK hP hD hS 0 rfl rfl 0 (by decide) f11 (fun _ h9 => h9) rfl hni rfl (by decide +kernel) rfl rfl (Nat.le_of_ble_eq_true rfl) dX5_init_9 (fun H locs hP hD hS => ?_)
  replace hP : va_P D vwCl [(b, .inr (4, [.ref q1, .null, .null, .null, .int 0, .int 0, .int 0, .int 0])), (q1, .inl (cI, 64, .inl (fun _ => 0)))] H := hP
  replace hD : va_D A [(b, .inr (4, [.ref q1, .null, .null, .null, .int 0, .int 0, .int 0, .int 0])), (q1, .inl (cI, 64, .inl (fun _ => 0)))] := hD
  refine lv_aload_n hx hb dX5_init_12 rfl (lv_at hl 0 rfl) ?_
  refine lv_bipush (v := 6) hx hb dX5_init_13 (by decide) ?_
  refine kn_newa (atype := .int) (n := 6) (N' := 6) (cX := cI) (ty := .int) hx hb arint rfl hK hP hD hS hA hRc hRs 0 rfl (fun _ a1 a2 => Option.some.inj (a1.symm.trans a2)) (arr0_int 6) (by decide) (by decide) (by decide) ⟨by decide, by decide⟩ dX5_init_15 (fun q2 H hP hD hS => ?_)
  replace hP : va_P D vwCl [(b, .inr (4, [.ref q1, .null, .null, .null, .int 0, .int 0, .int 0, .int 0])), (q1, .inl (cI, 64, .inl (fun _ => 0))), (q2, .inl (cI, 6, .inl (fun _ => 0)))] H := hP
  replace hD : va_D A [(b, .inr (4, [.ref q1, .null, .null, .null, .int 0, .int 0, .int 0, .int 0])), (q1, .inl (cI, 64, .inl (fun _ => 0))), (q2, .inl (cI, 6, .inl (fun _ => 0)))] := hD
  refine va_putF (D := D) (ci := 4) (v := .ref q2) (ty := .array .int) (C := RX5) (T := TX5) (N := 8) hx hb hts hin tyX5 tyX5_ok nmX5 hown hK hP hD hS 0 rfl rfl 1 (by decide) f15 (fun _ h9 => h9) rfl hni rfl (by decide +kernel) rfl rfl (Nat.le_of_ble_eq_true rfl) dX5_init_17 (fun H locs hP hD hS => ?_)
  replace hP : va_P D vwCl [(b, .inr (4, [.ref q1, .ref q2, .null, .null, .int 0, .int 0, .int 0, .int 0])), (q1, .inl (cI, 64, .inl (fun _ => 0))), (q2, .inl (cI, 6, .inl (fun _ => 0)))] H := hP
  replace hD : va_D A [(b, .inr (4, [.ref q1, .ref q2, .null, .null, .int 0, .int 0, .int 0, .int 0])), (q1, .inl (cI, 64, .inl (fun _ => 0))), (q2, .inl (cI, 6, .inl (fun _ => 0)))] := hD
  refine lv_aload_n hx hb dX5_init_20 rfl (lv_at hl 0 rfl) ?_
  refine lv_bipush (v := 12) hx hb dX5_init_21 (by decide) ?_
  refine kn_newa (atype := .int) (n := 12) (N' := 12) (cX := cI) (ty := .int) hx hb arint rfl hK hP hD hS hA hRc hRs 0 rfl (fun _ a1 a2 => Option.some.inj (a1.symm.trans a2)) (arr0_int 12) (by decide) (by decide) (by decide) ⟨by decide, by decide⟩ dX5_init_23 (fun q3 H hP hD hS => ?_)
  replace hP : va_P D vwCl [(b, .inr (4, [.ref q1, .ref q2, .null, .null, .int 0, .int 0, .int 0, .int 0])), (q1, .inl (cI, 64, .inl (fun _ => 0))), (q2, .inl (cI, 6, .inl (fun _ => 0))), (q3, .inl (cI, 12, .inl (fun _ => 0)))] H := hP
  replace hD : va_D A [(b, .inr (4, [.ref q1, .ref q2, .null, .null, .int 0, .int 0, .int 0, .int 0])), (q1, .inl (cI, 64, .inl (fun _ => 0))), (q2, .inl (cI, 6, .inl (fun _ => 0))), (q3, .inl (cI, 12, .inl (fun _ => 0)))] := hD
  refine va_putF (D := D) (ci := 4) (v := .ref q3) (ty := .array .int) (C := RX5) (T := TX5) (N := 8) hx hb hts hin tyX5 tyX5_ok nmX5 hown hK hP hD hS 0 rfl rfl 2 (by decide) f18 (fun _ h9 => h9) rfl hni rfl (by decide +kernel) rfl rfl (Nat.le_of_ble_eq_true rfl) dX5_init_25 (fun H locs hP hD hS => ?_)
  replace hP : va_P D vwCl [(b, .inr (4, [.ref q1, .ref q2, .ref q3, .null, .int 0, .int 0, .int 0, .int 0])), (q1, .inl (cI, 64, .inl (fun _ => 0))), (q2, .inl (cI, 6, .inl (fun _ => 0))), (q3, .inl (cI, 12, .inl (fun _ => 0)))] H := hP
  replace hD : va_D A [(b, .inr (4, [.ref q1, .ref q2, .ref q3, .null, .int 0, .int 0, .int 0, .int 0])), (q1, .inl (cI, 64, .inl (fun _ => 0))), (q2, .inl (cI, 6, .inl (fun _ => 0))), (q3, .inl (cI, 12, .inl (fun _ => 0)))] := hD
  refine lv_aload_n hx hb dX5_init_28 rfl (lv_at hl 0 rfl) ?_
  refine lv_bipush (v := 61) hx hb dX5_init_29 (by decide) ?_
  refine kn_newa (atype := .int) (n := 61) (N' := 61) (cX := cI) (ty := .int) hx hb arint rfl hK hP hD hS hA hRc hRs 0 rfl (fun _ a1 a2 => Option.some.inj (a1.symm.trans a2)) (arr0_int 61) (by decide) (by decide) (by decide) ⟨by decide, by decide⟩ dX5_init_31 (fun q4 H hP hD hS => ?_)
  replace hP : va_P D vwCl [(b, .inr (4, [.ref q1, .ref q2, .ref q3, .null, .int 0, .int 0, .int 0, .int 0])), (q1, .inl (cI, 64, .inl (fun _ => 0))), (q2, .inl (cI, 6, .inl (fun _ => 0))), (q3, .inl (cI, 12, .inl (fun _ => 0))), (q4, .inl (cI, 61, .inl (fun _ => 0)))] H := hP
  replace hD : va_D A [(b, .inr (4, [.ref q1, .ref q2, .ref q3, .null, .int 0, .int 0, .int 0, .int 0])), (q1, .inl (cI, 64, .inl (fun _ => 0))), (q2, .inl (cI, 6, .inl (fun _ => 0))), (q3, .inl (cI, 12, .inl (fun _ => 0))), (q4, .inl (cI, 61, .inl (fun _ => 0)))] := hD
  refine va_putF (D := D) (ci := 4) (v := .ref q4) (ty := .array .int) (C := RX5) (T := TX5) (N := 8) hx hb hts hin tyX5 tyX5_ok nmX5 hown hK hP hD hS 0 rfl rfl 3 (by decide) f21 (fun _ h9 => h9) rfl hni rfl (by decide +kernel) rfl rfl (Nat.le_of_ble_eq_true rfl) dX5_init_33 (fun H locs hP hD hS => ?_)
  replace hP : va_P D vwCl [(b, .inr (4, [.ref q1, .ref q2, .ref q3, .ref q4, .int 0, .int 0, .int 0, .int 0])), (q1, .inl (cI, 64, .inl (fun _ => 0))), (q2, .inl (cI, 6, .inl (fun _ => 0))), (q3, .inl (cI, 12, .inl (fun _ => 0))), (q4, .inl (cI, 61, .inl (fun _ => 0)))] H := hP
  replace hD : va_D A [(b, .inr (4, [.ref q1, .ref q2, .ref q3, .ref q4, .int 0, .int 0, .int 0, .int 0])), (q1, .inl (cI, 64, .inl (fun _ => 0))), (q2, .inl (cI, 6, .inl (fun _ => 0))), (q3, .inl (cI, 12, .inl (fun _ => 0))), (q4, .inl (cI, 61, .inl (fun _ => 0)))] := hD
  refine lv_aload_n hx hb dX5_init_36 rfl (lv_at hl 0 rfl) ?_
  refine lv_iconst (v := 0) hx hb dX5_init_37 (by decide) ?_
  refine va_put (D := D) (ci := 4) (v := .int 0) (ty := .boolean) (C := RX5) (T := TX5) (N := 8) hx hb hts hin tyX5 tyX5_ok nmX5 hown hK hP hD hS 0 rfl rfl 4 (by decide) f24 (fun _ h9 => h9) rfl (by decide +kernel) rfl rfl (Nat.le_of_ble_eq_true rfl) dX5_init_38 (fun H locs hP hD hS => ?_)
  replace hP : va_P D vwCl [(b, .inr (4, [.ref q1, .ref q2, .ref q3, .ref q4, .int 0, .int 0, .int 0, .int 0])), (q1, .inl (cI, 64, .inl (fun _ => 0))), (q2, .inl (cI, 6, .inl (fun _ => 0))), (q3, .inl (cI, 12, .inl (fun _ => 0))), (q4, .inl (cI, 61, .inl (fun _ => 0)))] H := hP
  replace hD : va_D A [(b, .inr (4, [.ref q1, .ref q2, .ref q3, .ref q4, .int 0, .int 0, .int 0, .int 0])), (q1, .inl (cI, 64, .inl (fun _ => 0))), (q2, .inl (cI, 6, .inl (fun _ => 0))), (q3, .inl (cI, 12, .inl (fun _ => 0))), (q4, .inl (cI, 61, .inl (fun _ => 0)))] := hD
  refine lv_aload_n hx hb dX5_init_41 rfl (lv_at hl 0 rfl) ?_
  refine lv_iconst (v := 0) hx hb dX5_init_42 (by decide) ?_
  refine va_put (D := D) (ci := 4) (v := .int 0) (ty := .int) (C := RX5) (T := TX5) (N := 8) hx hb hts hin tyX5 tyX5_ok nmX5 hown hK hP hD hS 0 rfl rfl 5 (by decide) f28 (fun _ h9 => h9) rfl (by decide +kernel) rfl rfl (Nat.le_of_ble_eq_true rfl) dX5_init_43 (fun H locs hP hD hS => ?_)
  replace hP : va_P D vwCl [(b, .inr (4, [.ref q1, .ref q2, .ref q3, .ref q4, .int 0, .int 0, .int 0, .int 0])), (q1, .inl (cI, 64, .inl (fun _ => 0))), (q2, .inl (cI, 6, .inl (fun _ => 0))), (q3, .inl (cI, 12, .inl (fun _ => 0))), (q4, .inl (cI, 61, .inl (fun _ => 0)))] H := hP
  replace hD : va_D A [(b, .inr (4, [.ref q1, .ref q2, .ref q3, .ref q4, .int 0, .int 0, .int 0, .int 0])), (q1, .inl (cI, 64, .inl (fun _ => 0))), (q2, .inl (cI, 6, .inl (fun _ => 0))), (q3, .inl (cI, 12, .inl (fun _ => 0))), (q4, .inl (cI, 61, .inl (fun _ => 0)))] := hD
  refine lv_aload_n hx hb dX5_init_46 rfl (lv_at hl 0 rfl) ?_
  refine lv_iconst (v := 0) hx hb dX5_init_47 (by decide) ?_
  refine va_put (D := D) (ci := 4) (v := .int 0) (ty := .int) (C := RX5) (T := TX5) (N := 8) hx hb hts hin tyX5 tyX5_ok nmX5 hown hK hP hD hS 0 rfl rfl 6 (by decide) f32 (fun _ h9 => h9) rfl (by decide +kernel) rfl rfl (Nat.le_of_ble_eq_true rfl) dX5_init_48 (fun H locs hP hD hS => ?_)
  replace hP : va_P D vwCl [(b, .inr (4, [.ref q1, .ref q2, .ref q3, .ref q4, .int 0, .int 0, .int 0, .int 0])), (q1, .inl (cI, 64, .inl (fun _ => 0))), (q2, .inl (cI, 6, .inl (fun _ => 0))), (q3, .inl (cI, 12, .inl (fun _ => 0))), (q4, .inl (cI, 61, .inl (fun _ => 0)))] H := hP
  replace hD : va_D A [(b, .inr (4, [.ref q1, .ref q2, .ref q3, .ref q4, .int 0, .int 0, .int 0, .int 0])), (q1, .inl (cI, 64, .inl (fun _ => 0))), (q2, .inl (cI, 6, .inl (fun _ => 0))), (q3, .inl (cI, 12, .inl (fun _ => 0))), (q4, .inl (cI, 61, .inl (fun _ => 0)))] := hD
  refine lv_aload_n hx hb dX5_init_51 rfl (lv_at hl 0 rfl) ?_
  refine lv_iconst (v := 0) hx hb dX5_init_52 (by decide) ?_
  refine va_put (D := D) (ci := 4) (v := .int 0) (ty := .int) (C := RX5) (T := TX5) (N := 8) hx hb hts hin tyX5 tyX5_ok nmX5 hown hK hP hD hS 0 rfl rfl 7 (by decide) f35 (fun _ h9 => h9) rfl (by decide +kernel) rfl rfl (Nat.le_of_ble_eq_true rfl) dX5_init_53 (fun H locs hP hD hS => ?_)
  replace hP : va_P D vwCl [(b, .inr (4, [.ref q1, .ref q2, .ref q3, .ref q4, .int 0, .int 0, .int 0, .int 0])), (q1, .inl (cI, 64, .inl (fun _ => 0))), (q2, .inl (cI, 6, .inl (fun _ => 0))), (q3, .inl (cI, 12, .inl (fun _ => 0))), (q4, .inl (cI, 61, .inl (fun _ => 0)))] H := hP
  replace hD : va_D A [(b, .inr (4, [.ref q1, .ref q2, .ref q3, .ref q4, .int 0, .int 0, .int 0, .int 0])), (q1, .inl (cI, 64, .inl (fun _ => 0))), (q2, .inl (cI, 6, .inl (fun _ => 0))), (q3, .inl (cI, 12, .inl (fun _ => 0))), (q4, .inl (cI, 61, .inl (fun _ => 0)))] := hD
  exact hret _ _ _ _ _ ⟨fun k => if k = 1 then q1 else if k = 2 then q2 else if k = 3 then q3 else if k = 4 then q4 else b, rfl, rfl⟩ hP hD hS dX5_init_56
set_option maxHeartbeats 4000000 in
set_option maxRecDepth 100000 in
theorem kC_init (l : Launch) (D : va_G) (cI cB cR cM cJ : ClassId) (b : Nat) : KN l D (ctys cI cB cR cM cJ) yX2_init wsX2_init 1 20 2 12 [.ref b] [(b, .inr (2, [.null, .null, .int 0, .int 0]))] (fun w1 => ∃ u : Nat → Nat, u 0 = b ∧ w1 = xC u cI cB cR cM cJ s0C) := by
  refine KN.of (own := RX2) (cc := cX2_init) (maxL := 1) (by decide) rfl rfl rfl (Nat.le_of_ble_eq_true rfl) ?_
  intro p e s m args below meth c R Q A ls S hni hRf hRl hRc hRs hK hA hP hD hS hl hN hret
  obtain ⟨hx, hb, hml, hown, hts⟩ := id S
  have hin : ∀ w ∈ wsX20, w ∈ wsX2_init := fun w hw => List.mem_cons_of_mem _ (List.mem_append_right _ hw)
  have oC := hts (.code objectInit ⟨#[0xb1]⟩ 1 none) (List.mem_cons_of_mem _ (List.mem_append_left _ (List.mem_of_getElem? (i := 2) rfl)))
  have oL := hts (.methodLink RX2 3 objectInit) (by decide +kernel)
  have oI := hts (.instanceMethod objectInit) (by decide +kernel)
  have arint := hts (.arrayClass .int) (by decide +kernel)
  have f11 := hts (.fieldLink RX2 11 "PenniesAway$Carrier" "order" "[I") (by decide +kernel)
  have f17 := hts (.fieldLink RX2 17 "PenniesAway$Carrier" "path" "[I") (by decide +kernel)
  have f20 := hts (.fieldLink RX2 20 "PenniesAway$Carrier" "stops" "I") (by decide +kernel)
  have c24 := hts (.constant RX2 24 (-1000000)) (by decide +kernel)
  have f25 := hts (.fieldLink RX2 25 "PenniesAway$Carrier" "fewest" "I") (by decide +kernel)
  have hl : lv_has ls 1 [(0, .ref b)] := hl
  refine lv_aload_n hx hb dX2_init_0 rfl (lv_at hl 0 rfl) ?_
  refine W.objInit hx hb hown oL oI oC rfl (by rw [hml]; exact hl.1) rfl dX2_init_1 (by rw [hRf]; decide) (by rw [hRl]; exact Nat.le_of_ble_eq_true rfl) ?_
  refine W.eq (g2 := F0 m 4 ls []) rfl ?_
  refine lv_aload_n hx hb dX2_init_4 rfl (lv_at hl 0 rfl) ?_
  refine lv_bipush (v := 6) hx hb dX2_init_5 (by decide) ?_
  refine kn_newa (atype := .int) (n := 6) (N' := 6) (cX := cI) (ty := .int) hx hb arint rfl hK hP hD hS hA hRc hRs 0 rfl (fun _ a1 a2 => Option.some.inj (a1.symm.trans a2)) (arr0_int 6) (by decide) (by decide) (by decide) ⟨by decide, by decide⟩ dX2_init_7 (fun q1 H hP hD hS => ?_)
  replace hP : va_P D vwCl [(b, .inr (2, [.null, .null, .int 0, .int 0])), (q1, .inl (cI, 6, .inl (fun _ => 0)))] H := hP
  replace hD : va_D A [(b, .inr (2, [.null, .null, .int 0, .int 0])), (q1, .inl (cI, 6, .inl (fun _ => 0)))] := hD
  refine va_putF (D := D) (ci := 2) (v := .ref q1) (ty := .array .int) (C := RX2) (T := TX2) (N := 4) hx hb hts hin tyX2 tyX2_ok nmX2 hown hK hP hD hS 0 rfl rfl 0 (by decide) f11 (fun _ h9 => h9) rfl hni rfl (by decide +kernel) rfl rfl (Nat.le_of_ble_eq_true rfl) dX2_init_9 (fun H locs hP hD hS => ?_)
  replace hP : va_P D vwCl [(b, .inr (2, [.ref q1, .null, .int 0, .int 0])), (q1, .inl (cI, 6, .inl (fun _ => 0)))] H := hP
  replace hD : va_D A [(b, .inr (2, [.ref q1, .null, .int 0, .int 0])), (q1, .inl (cI, 6, .inl (fun _ => 0)))] := hD
  refine lv_aload_n hx hb dX2_init_12 rfl (lv_at hl 0 rfl) ?_
  refine lv_bipush (v := 6) hx hb dX2_init_13 (by decide) ?_
  refine kn_newa (atype := .int) (n := 6) (N' := 6) (cX := cI) (ty := .int) hx hb arint rfl hK hP hD hS hA hRc hRs 0 rfl (fun _ a1 a2 => Option.some.inj (a1.symm.trans a2)) (arr0_int 6) (by decide) (by decide) (by decide) ⟨by decide, by decide⟩ dX2_init_15 (fun q2 H hP hD hS => ?_)
  replace hP : va_P D vwCl [(b, .inr (2, [.ref q1, .null, .int 0, .int 0])), (q1, .inl (cI, 6, .inl (fun _ => 0))), (q2, .inl (cI, 6, .inl (fun _ => 0)))] H := hP
  replace hD : va_D A [(b, .inr (2, [.ref q1, .null, .int 0, .int 0])), (q1, .inl (cI, 6, .inl (fun _ => 0))), (q2, .inl (cI, 6, .inl (fun _ => 0)))] := hD
  refine va_putF (D := D) (ci := 2) (v := .ref q2) (ty := .array .int) (C := RX2) (T := TX2) (N := 4) hx hb hts hin tyX2 tyX2_ok nmX2 hown hK hP hD hS 0 rfl rfl 1 (by decide) f17 (fun _ h9 => h9) rfl hni rfl (by decide +kernel) rfl rfl (Nat.le_of_ble_eq_true rfl) dX2_init_17 (fun H locs hP hD hS => ?_)
  replace hP : va_P D vwCl [(b, .inr (2, [.ref q1, .ref q2, .int 0, .int 0])), (q1, .inl (cI, 6, .inl (fun _ => 0))), (q2, .inl (cI, 6, .inl (fun _ => 0)))] H := hP
  replace hD : va_D A [(b, .inr (2, [.ref q1, .ref q2, .int 0, .int 0])), (q1, .inl (cI, 6, .inl (fun _ => 0))), (q2, .inl (cI, 6, .inl (fun _ => 0)))] := hD
  refine lv_aload_n hx hb dX2_init_20 rfl (lv_at hl 0 rfl) ?_
  refine lv_iconst (v := 0) hx hb dX2_init_21 (by decide) ?_
  refine va_put (D := D) (ci := 2) (v := .int 0) (ty := .int) (C := RX2) (T := TX2) (N := 4) hx hb hts hin tyX2 tyX2_ok nmX2 hown hK hP hD hS 0 rfl rfl 2 (by decide) f20 (fun _ h9 => h9) rfl (by decide +kernel) rfl rfl (Nat.le_of_ble_eq_true rfl) dX2_init_22 (fun H locs hP hD hS => ?_)
  replace hP : va_P D vwCl [(b, .inr (2, [.ref q1, .ref q2, .int 0, .int 0])), (q1, .inl (cI, 6, .inl (fun _ => 0))), (q2, .inl (cI, 6, .inl (fun _ => 0)))] H := hP
  replace hD : va_D A [(b, .inr (2, [.ref q1, .ref q2, .int 0, .int 0])), (q1, .inl (cI, 6, .inl (fun _ => 0))), (q2, .inl (cI, 6, .inl (fun _ => 0)))] := hD
  refine lv_aload_n hx hb dX2_init_25 rfl (lv_at hl 0 rfl) ?_
  refine lv_ldc (v := (-1000000)) hx hb hown c24 dX2_init_26 ?_
  refine va_put (D := D) (ci := 2) (v := .int (-1000000)) (ty := .int) (C := RX2) (T := TX2) (N := 4) hx hb hts hin tyX2 tyX2_ok nmX2 hown hK hP hD hS 0 rfl rfl 3 (by decide) f25 (fun _ h9 => h9) rfl (by decide +kernel) rfl rfl (Nat.le_of_ble_eq_true rfl) dX2_init_28 (fun H locs hP hD hS => ?_)
  replace hP : va_P D vwCl [(b, .inr (2, [.ref q1, .ref q2, .int 0, .int (-1000000)])), (q1, .inl (cI, 6, .inl (fun _ => 0))), (q2, .inl (cI, 6, .inl (fun _ => 0)))] H := hP
  replace hD : va_D A [(b, .inr (2, [.ref q1, .ref q2, .int 0, .int (-1000000)])), (q1, .inl (cI, 6, .inl (fun _ => 0))), (q2, .inl (cI, 6, .inl (fun _ => 0)))] := hD
  exact hret _ _ _ _ _ ⟨fun k => if k = 1 then q1 else if k = 2 then q2 else b, rfl, rfl⟩ hP hD hS dX2_init_31
set_option maxHeartbeats 4000000 in
set_option maxRecDepth 100000 in
theorem kA_init (l : Launch) (D : va_G) (cI cB cR cM cJ : ClassId) (b : Nat) : KN l D (ctys cI cB cR cM cJ) yX1_init wsX1_init 1 20 1 16 [.ref b] [(b, .inr (1, [.null, .int 0, .int 0, .int 0, .int 0, .int 0]))] (fun w1 => ∃ u : Nat → Nat, u 0 = b ∧ w1 = xA u cI cB cR cM cJ s0) := by
  refine KN.of (own := RX1) (cc := cX1_init) (maxL := 1) (by decide) rfl rfl rfl (Nat.le_of_ble_eq_true rfl) ?_
  intro p e s m args below meth c R Q A ls S hni hRf hRl hRc hRs hK hA hP hD hS hl hN hret
  obtain ⟨hx, hb, hml, hown, hts⟩ := id S
  have hin : ∀ w ∈ wsX10, w ∈ wsX1_init := fun w hw => List.mem_cons_of_mem _ (List.mem_append_right _ hw)
  have oC := hts (.code objectInit ⟨#[0xb1]⟩ 1 none) (List.mem_cons_of_mem _ (List.mem_append_left _ (List.mem_of_getElem? (i := 2) rfl)))
  have oL := hts (.methodLink RX1 3 objectInit) (by decide +kernel)
  have oI := hts (.instanceMethod objectInit) (by decide +kernel)
  have arint := hts (.arrayClass .int) (by decide +kernel)
  have f11 := hts (.fieldLink RX1 11 "PenniesAway$Asker" "notes" "[I") (by decide +kernel)
  have f15 := hts (.fieldLink RX1 15 "PenniesAway$Asker" "begun" "I") (by decide +kernel)
  have f19 := hts (.fieldLink RX1 19 "PenniesAway$Asker" "number" "I") (by decide +kernel)
  have f22 := hts (.fieldLink RX1 22 "PenniesAway$Asker" "kindAsked" "I") (by decide +kernel)
  have f25 := hts (.fieldLink RX1 25 "PenniesAway$Asker" "age" "I") (by decide +kernel)
  have f28 := hts (.fieldLink RX1 28 "PenniesAway$Asker" "span" "I") (by decide +kernel)
  have hl : lv_has ls 1 [(0, .ref b)] := hl
  refine lv_aload_n hx hb dX1_init_0 rfl (lv_at hl 0 rfl) ?_
  refine W.objInit hx hb hown oL oI oC rfl (by rw [hml]; exact hl.1) rfl dX1_init_1 (by rw [hRf]; decide) (by rw [hRl]; exact Nat.le_of_ble_eq_true rfl) ?_
  refine W.eq (g2 := F0 m 4 ls []) rfl ?_
  refine lv_aload_n hx hb dX1_init_4 rfl (lv_at hl 0 rfl) ?_
  refine lv_bipush (v := 16) hx hb dX1_init_5 (by decide) ?_
  refine kn_newa (atype := .int) (n := 16) (N' := 16) (cX := cI) (ty := .int) hx hb arint rfl hK hP hD hS hA hRc hRs 0 rfl (fun _ a1 a2 => Option.some.inj (a1.symm.trans a2)) (arr0_int 16) (by decide) (by decide) (by decide) ⟨by decide, by decide⟩ dX1_init_7 (fun q1 H hP hD hS => ?_)
  replace hP : va_P D vwCl [(b, .inr (1, [.null, .int 0, .int 0, .int 0, .int 0, .int 0])), (q1, .inl (cI, 16, .inl (fun _ => 0)))] H := hP
  replace hD : va_D A [(b, .inr (1, [.null, .int 0, .int 0, .int 0, .int 0, .int 0])), (q1, .inl (cI, 16, .inl (fun _ => 0)))] := hD
  refine va_putF (D := D) (ci := 1) (v := .ref q1) (ty := .array .int) (C := RX1) (T := TX1) (N := 6) hx hb hts hin tyX1 tyX1_ok nmX1 hown hK hP hD hS 0 rfl rfl 0 (by decide) f11 (fun _ h9 => h9) rfl hni rfl (by decide +kernel) rfl rfl (Nat.le_of_ble_eq_true rfl) dX1_init_9 (fun H locs hP hD hS => ?_)
  replace hP : va_P D vwCl [(b, .inr (1, [.ref q1, .int 0, .int 0, .int 0, .int 0, .int 0])), (q1, .inl (cI, 16, .inl (fun _ => 0)))] H := hP
  replace hD : va_D A [(b, .inr (1, [.ref q1, .int 0, .int 0, .int 0, .int 0, .int 0])), (q1, .inl (cI, 16, .inl (fun _ => 0)))] := hD
  refine lv_aload_n hx hb dX1_init_12 rfl (lv_at hl 0 rfl) ?_
  refine lv_iconst (v := 0) hx hb dX1_init_13 (by decide) ?_
  refine va_put (D := D) (ci := 1) (v := .int 0) (ty := .int) (C := RX1) (T := TX1) (N := 6) hx hb hts hin tyX1 tyX1_ok nmX1 hown hK hP hD hS 0 rfl rfl 1 (by decide) f15 (fun _ h9 => h9) rfl (by decide +kernel) rfl rfl (Nat.le_of_ble_eq_true rfl) dX1_init_14 (fun H locs hP hD hS => ?_)
  replace hP : va_P D vwCl [(b, .inr (1, [.ref q1, .int 0, .int 0, .int 0, .int 0, .int 0])), (q1, .inl (cI, 16, .inl (fun _ => 0)))] H := hP
  replace hD : va_D A [(b, .inr (1, [.ref q1, .int 0, .int 0, .int 0, .int 0, .int 0])), (q1, .inl (cI, 16, .inl (fun _ => 0)))] := hD
  refine lv_aload_n hx hb dX1_init_17 rfl (lv_at hl 0 rfl) ?_
  refine lv_iconst (v := 0) hx hb dX1_init_18 (by decide) ?_
  refine va_put (D := D) (ci := 1) (v := .int 0) (ty := .int) (C := RX1) (T := TX1) (N := 6) hx hb hts hin tyX1 tyX1_ok nmX1 hown hK hP hD hS 0 rfl rfl 2 (by decide) f19 (fun _ h9 => h9) rfl (by decide +kernel) rfl rfl (Nat.le_of_ble_eq_true rfl) dX1_init_19 (fun H locs hP hD hS => ?_)
  replace hP : va_P D vwCl [(b, .inr (1, [.ref q1, .int 0, .int 0, .int 0, .int 0, .int 0])), (q1, .inl (cI, 16, .inl (fun _ => 0)))] H := hP
  replace hD : va_D A [(b, .inr (1, [.ref q1, .int 0, .int 0, .int 0, .int 0, .int 0])), (q1, .inl (cI, 16, .inl (fun _ => 0)))] := hD
  refine lv_aload_n hx hb dX1_init_22 rfl (lv_at hl 0 rfl) ?_
  refine lv_iconst (v := 0) hx hb dX1_init_23 (by decide) ?_
  refine va_put (D := D) (ci := 1) (v := .int 0) (ty := .int) (C := RX1) (T := TX1) (N := 6) hx hb hts hin tyX1 tyX1_ok nmX1 hown hK hP hD hS 0 rfl rfl 3 (by decide) f22 (fun _ h9 => h9) rfl (by decide +kernel) rfl rfl (Nat.le_of_ble_eq_true rfl) dX1_init_24 (fun H locs hP hD hS => ?_)
  replace hP : va_P D vwCl [(b, .inr (1, [.ref q1, .int 0, .int 0, .int 0, .int 0, .int 0])), (q1, .inl (cI, 16, .inl (fun _ => 0)))] H := hP
  replace hD : va_D A [(b, .inr (1, [.ref q1, .int 0, .int 0, .int 0, .int 0, .int 0])), (q1, .inl (cI, 16, .inl (fun _ => 0)))] := hD
  refine lv_aload_n hx hb dX1_init_27 rfl (lv_at hl 0 rfl) ?_
  refine lv_iconst (v := 0) hx hb dX1_init_28 (by decide) ?_
  refine va_put (D := D) (ci := 1) (v := .int 0) (ty := .int) (C := RX1) (T := TX1) (N := 6) hx hb hts hin tyX1 tyX1_ok nmX1 hown hK hP hD hS 0 rfl rfl 4 (by decide) f25 (fun _ h9 => h9) rfl (by decide +kernel) rfl rfl (Nat.le_of_ble_eq_true rfl) dX1_init_29 (fun H locs hP hD hS => ?_)
  replace hP : va_P D vwCl [(b, .inr (1, [.ref q1, .int 0, .int 0, .int 0, .int 0, .int 0])), (q1, .inl (cI, 16, .inl (fun _ => 0)))] H := hP
  replace hD : va_D A [(b, .inr (1, [.ref q1, .int 0, .int 0, .int 0, .int 0, .int 0])), (q1, .inl (cI, 16, .inl (fun _ => 0)))] := hD
  refine lv_aload_n hx hb dX1_init_32 rfl (lv_at hl 0 rfl) ?_
  refine lv_iconst (v := 0) hx hb dX1_init_33 (by decide) ?_
  refine va_put (D := D) (ci := 1) (v := .int 0) (ty := .int) (C := RX1) (T := TX1) (N := 6) hx hb hts hin tyX1 tyX1_ok nmX1 hown hK hP hD hS 0 rfl rfl 5 (by decide) f28 (fun _ h9 => h9) rfl (by decide +kernel) rfl rfl (Nat.le_of_ble_eq_true rfl) dX1_init_34 (fun H locs hP hD hS => ?_)
  replace hP : va_P D vwCl [(b, .inr (1, [.ref q1, .int 0, .int 0, .int 0, .int 0, .int 0])), (q1, .inl (cI, 16, .inl (fun _ => 0)))] H := hP
  replace hD : va_D A [(b, .inr (1, [.ref q1, .int 0, .int 0, .int 0, .int 0, .int 0])), (q1, .inl (cI, 16, .inl (fun _ => 0)))] := hD
  exact hret _ _ _ _ _ ⟨fun k => if k = 1 then q1 else b, rfl, rfl⟩ hP hD hS dX1_init_37
