/-! realm(): a text that is read takes the realm's place -/
theorem vp_swap {D : va_G} {cl : List vw_C} {a b c d : va_W} {H : Heap} (h : va_P D cl (a ++ (b ++ (c ++ d))) H) : va_P D cl (a ++ (c ++ (b ++ d))) H := by
  rw [← List.append_assoc] at h
  have h1 := va_P.swap h
  rw [← List.append_assoc a c d] at h1
  have h2 := va_P.swap h1
  rw [List.append_assoc, List.append_assoc] at h2
  exact h2
theorem vd_swap {A : Nat → Prop} {a b c d : va_W} (h : va_D A (a ++ (b ++ (c ++ d)))) : va_D A (a ++ (c ++ (b ++ d))) := by
  rw [← List.append_assoc] at h
  have h1 := va_D.swap h
  rw [← List.append_assoc a c d] at h1
  have h2 := va_D.swap h1
  rw [List.append_assoc, List.append_assoc] at h2
  exact h2
/-- the world with any values in the object's own fields -/
abbrev pwR (fs : List Value) (uP uL uG uR uT uC uA uK : Nat → Nat) (uW uI : Nat → Nat → Nat) (cI cB cR cM cJ : ClassId) (σL σG σR σT σC σA σK : MS) (ω ι : Nat → MS) : va_W := ([(uP 0, .inr (7, fs)), (uP 1, .inl (cR, 8, .inr (.inr (.inr (.inr (kRefs 8 (fun i => uW i 0))))))), (uP 2, .inl (cM, 2, .inr (.inr (.inr (.inr (kRefs 2 (fun i => uI i 0)))))))] : va_W) ++ (xL uL cI cB cR cM cJ σL ++ (xL uG cI cB cR cM cJ σG ++ (xR uR uT cI cB cR cM cJ σR ++ (xT uT cI cB cR cM cJ σT ++ (xC uC cI cB cR cM cJ σC ++ (xA uA cI cB cR cM cJ σA ++ (xK uK cI cB cR cM cJ σK ++ ((xW (uW 0) cI cB cR cM cJ (ω 0) ++ xW (uW 1) cI cB cR cM cJ (ω 1) ++ xW (uW 2) cI cB cR cM cJ (ω 2) ++ xW (uW 3) cI cB cR cM cJ (ω 3) ++ xW (uW 4) cI cB cR cM cJ (ω 4) ++ xW (uW 5) cI cB cR cM cJ (ω 5) ++ xW (uW 6) cI cB cR cM cJ (ω 6) ++ xW (uW 7) cI cB cR cM cJ (ω 7)) ++ (xL (uI 0) cI cB cR cM cJ (ι 0) ++ xL (uI 1) cI cB cR cM cJ (ι 1))))))))))
set_option maxHeartbeats 4000000 in
set_option maxRecDepth 100000 in
theorem kP_realmF (l : Launch) (D : va_G) (uP uL uG uR uT uC uA uK : Nat → Nat) (uW uI : Nat → Nat → Nat) (cI cB cR cM cJ : ClassId) (t : Nat → Nat) (σP σL σG σR σT σC σA σK : MS) (ω ι : Nat → MS) (σR1 σT1 σG1 σT2 : MS) (hrd : FR_read σR σT σG = some (0, σR1, σT1, σG1)) (hem : FT_empty σT1 = some σT2) : KZ l D (ctys cI cB cR cM cJ) t yX8_realm wsX8_realm 9 193 [.ref (uP 0)] (pw uP uL uG uR uT uC uA uK uW uI cI cB cR cM cJ σP σL σG σR σT σC σA σK ω ι) (some (.int (-1000100 - σR1.1 3))) (pw uP uL uG uR uT uC uA uK uW uI cI cB cR cM cJ (setF σP 10 (σR1.1 2)) σL σG1 σR1 σT2 σC σA σK ω ι) := by
  refine KZ.ofI (own := RX8) (cc := cX8_realm) (maxL := 3) (by decide) rfl rfl (Nat.le_of_ble_eq_true rfl) ?_
  intro p e s m args below meth c R Q A ls S hRf hRl hK hA hP hD hS hl hZ hret
  obtain ⟨hx, hb, hml, hown, hts⟩ := id S
  have hinX8 : ∀ w ∈ wsX80, w ∈ wsX8_realm := fun w hw => List.mem_cons_of_mem _ (List.mem_append_left _ (List.mem_append_left _ (List.mem_append_left _ (List.mem_append_left _ (List.mem_append_right _ hw)))))
  have hinX4 : ∀ w ∈ wsX40, w ∈ wsX8_realm := fun w hw => List.mem_cons_of_mem _ (List.mem_append_left _ (List.mem_append_left _ (List.mem_append_left _ (List.mem_append_right _ hw))))
  have hinX5 : ∀ w ∈ wsX50, w ∈ wsX8_realm := fun w hw => List.mem_cons_of_mem _ (List.mem_append_left _ (List.mem_append_left _ (List.mem_append_right _ hw)))
  have hinX7 : ∀ w ∈ wsX70, w ∈ wsX8_realm := fun w hw => List.mem_cons_of_mem _ (List.mem_append_left _ (List.mem_append_right _ hw))
  have hinX0 : ∀ w ∈ wsX00, w ∈ wsX8_realm := fun w hw => List.mem_cons_of_mem _ (List.mem_append_right _ hw)
  have f24 := hts (.fieldLink RX8 24 "PenniesAway" "reader" "LPenniesAway$Reader;") (by decide +kernel)
  have f61 := hts (.fieldLink RX8 61 "PenniesAway" "draft" "LPenniesAway$Realm;") (by decide +kernel)
  have f57 := hts (.fieldLink RX8 57 "PenniesAway" "kingdom" "LPenniesAway$Realm;") (by decide +kernel)
  have f32 := hts (.fieldLink RX8 32 "PenniesAway" "tape" "LPenniesAway$Tape;") (by decide +kernel)
  have f38 := hts (.fieldLink RX8 38 "PenniesAway" "acts" "LPenniesAway$Acts;") (by decide +kernel)
  have f68 := hts (.fieldLink RX8 68 "PenniesAway" "latestFault" "I") (by decide +kernel)
  have f140 := hts (.fieldLink RX8 140 "PenniesAway$Reader" "faultNumber" "I") (by decide +kernel)
  have f144 := hts (.fieldLink RX8 144 "PenniesAway$Reader" "faultPlace" "I") (by decide +kernel)
  have f150 := hts (.fieldLink RX8 150 "PenniesAway$Realm" "coins" "I") (by decide +kernel)
  have c143 := hts (.constant RX8 143 (-1000100)) (by decide +kernel)
  have hl : lv_has ls 3 [(0, .ref (uP 0))] := hl
  refine lv_aload_n hx hb dX8_realm_0 rfl (lv_at hl 0 rfl) ?_
  refine Pg_2 S hinX8 hK hP f24 dX8_realm_1 ?_
  refine lv_aload_n hx hb dX8_realm_4 rfl (lv_at hl 0 rfl) ?_
  refine Pg_8 S hinX8 hK hP f61 dX8_realm_5 ?_
  refine kz_v (ci := 3) (q0 := 0) (n := 1) S hRf hRl hK hA hZ hP hD hS hl [13, 14, 15, 8, 9, 10, 11, 12] [.ref (uG 0)] [] (kR_read l D uR uT uG cI cB cR cM cJ t σR σT σG 0 σR1 σT1 σG1 hrd) pw_cRTG rfl rfl gX8_realm_X4_read rfl (by decide +kernel) rfl ⟨by decide, by decide⟩ rfl rfl rfl rfl (Nat.le_of_ble_eq_true rfl) dX8_realm_8 (fun H locs hP hD hS => ?_)
  rw [pw_kRTG] at hP hD
  refine W.eq (g2 := F0 m 11 ls [.int 0]) rfl ?_
  refine lv_istore_n (lv' := [(1, .int 0), (0, .ref (uP 0))]) hx hb dX8_realm_11 rfl hl (by decide) rfl (fun ls hl => ?_)
  refine lv_aload_n hx hb dX8_realm_12 rfl (lv_at hl 1 rfl) ?_
  refine Pg_3 S hinX8 hK hP f32 dX8_realm_13 ?_
  refine kz_v (ci := 6) (q0 := 0) (n := 0) S hRf hRl hK hA hZ hP hD hS hl [14, 15] [] [] (kT_empty l D uT cI cB cR cM cJ t σT1 σT2 hem) pw_cT rfl rfl gX8_realm_X7_empty rfl (by decide +kernel) rfl ⟨by decide, by decide⟩ rfl rfl rfl rfl (Nat.le_of_ble_eq_true rfl) dX8_realm_16 (fun H locs hP hD hS => ?_)
  rw [pw_kT] at hP hD
  refine W.eq (g2 := F0 m 19 ls []) rfl ?_
  refine lv_iload_n hx hb dX8_realm_19 rfl (lv_at hl 0 rfl) ?_
  refine lv_if_ne (tgt := 45) hx hb dX8_realm_20 (by decide) (fun c1 => absurd rfl c1) (fun c1 => ?_)
  refine lv_aload_n hx hb dX8_realm_23 rfl (lv_at hl 1 rfl) ?_
  refine lv_aload_n hx hb dX8_realm_24 rfl (lv_at hl 1 rfl) ?_
  refine Pg_2 S hinX8 hK hP f24 dX8_realm_25 ?_
  refine Rg_2 S hinX4 hK hP 13 rfl f140 dX8_realm_28 ?_
  refine Pp_10 S hinX8 hK hP hD hS f68 dX8_realm_31 (fun H locs hP hD hS => ?_)
  refine lv_ldc (v := (-1000100)) hx hb hown c143 dX8_realm_34 ?_
  refine lv_aload_n hx hb dX8_realm_36 rfl (lv_at hl 1 rfl) ?_
  refine Pg_2 S hinX8 hK hP f24 dX8_realm_37 ?_
  refine Rg_3 S hinX4 hK hP 13 rfl f144 dX8_realm_40 ?_
  refine lv_isub hx hb dX8_realm_43 ?_
  exact hret _ _ _ _ hP hD hS dX8_realm_44
set_option maxHeartbeats 4000000 in
set_option maxRecDepth 100000 in
theorem kP_realmT (l : Launch) (D : va_G) (uP uL uG uR uT uC uA uK : Nat → Nat) (uW uI : Nat → Nat → Nat) (cI cB cR cM cJ : ClassId) (t : Nat → Nat) (σP σL σG σR σT σC σA σK : MS) (ω ι : Nat → MS) (r : Int32) (σR1 σT1 σG1 σT2 σK1 : MS) (hr0 : ¬ r = 0) (hrd : FR_read σR σT σG = some (r, σR1, σT1, σG1)) (hem : FT_empty σT1 = some σT2) (hfa : FK_forgetAll σK = some σK1) : KZ l D (ctys cI cB cR cM cJ) t yX8_realm wsX8_realm 9 193 [.ref (uP 0)] (pw uP uL uG uR uT uC uA uK uW uI cI cB cR cM cJ σP σL σG σR σT σC σA σK ω ι) (some (.int (σG1.1 7))) (pw uP uG uL uR uT uC uA uK uW uI cI cB cR cM cJ σP σG1 σL σR1 σT2 σC σA σK1 ω ι) := by
  refine KZ.ofI (own := RX8) (cc := cX8_realm) (maxL := 3) (by decide) rfl rfl (Nat.le_of_ble_eq_true rfl) ?_
  intro p e s m args below meth c R Q A ls S hRf hRl hK hA hP hD hS hl hZ hret
  obtain ⟨hx, hb, hml, hown, hts⟩ := id S
  have hinX8 : ∀ w ∈ wsX80, w ∈ wsX8_realm := fun w hw => List.mem_cons_of_mem _ (List.mem_append_left _ (List.mem_append_left _ (List.mem_append_left _ (List.mem_append_left _ (List.mem_append_right _ hw)))))
  have hinX4 : ∀ w ∈ wsX40, w ∈ wsX8_realm := fun w hw => List.mem_cons_of_mem _ (List.mem_append_left _ (List.mem_append_left _ (List.mem_append_left _ (List.mem_append_right _ hw))))
  have hinX5 : ∀ w ∈ wsX50, w ∈ wsX8_realm := fun w hw => List.mem_cons_of_mem _ (List.mem_append_left _ (List.mem_append_left _ (List.mem_append_right _ hw)))
  have hinX7 : ∀ w ∈ wsX70, w ∈ wsX8_realm := fun w hw => List.mem_cons_of_mem _ (List.mem_append_left _ (List.mem_append_right _ hw))
  have hinX0 : ∀ w ∈ wsX00, w ∈ wsX8_realm := fun w hw => List.mem_cons_of_mem _ (List.mem_append_right _ hw)
  have f24 := hts (.fieldLink RX8 24 "PenniesAway" "reader" "LPenniesAway$Reader;") (by decide +kernel)
  have f61 := hts (.fieldLink RX8 61 "PenniesAway" "draft" "LPenniesAway$Realm;") (by decide +kernel)
  have f57 := hts (.fieldLink RX8 57 "PenniesAway" "kingdom" "LPenniesAway$Realm;") (by decide +kernel)
  have f32 := hts (.fieldLink RX8 32 "PenniesAway" "tape" "LPenniesAway$Tape;") (by decide +kernel)
  have f38 := hts (.fieldLink RX8 38 "PenniesAway" "acts" "LPenniesAway$Acts;") (by decide +kernel)
  have f68 := hts (.fieldLink RX8 68 "PenniesAway" "latestFault" "I") (by decide +kernel)
  have f140 := hts (.fieldLink RX8 140 "PenniesAway$Reader" "faultNumber" "I") (by decide +kernel)
  have f144 := hts (.fieldLink RX8 144 "PenniesAway$Reader" "faultPlace" "I") (by decide +kernel)
  have f150 := hts (.fieldLink RX8 150 "PenniesAway$Realm" "coins" "I") (by decide +kernel)
  have c143 := hts (.constant RX8 143 (-1000100)) (by decide +kernel)
  have hl : lv_has ls 3 [(0, .ref (uP 0))] := hl
  refine lv_aload_n hx hb dX8_realm_0 rfl (lv_at hl 0 rfl) ?_
  refine Pg_2 S hinX8 hK hP f24 dX8_realm_1 ?_
  refine lv_aload_n hx hb dX8_realm_4 rfl (lv_at hl 0 rfl) ?_
  refine Pg_8 S hinX8 hK hP f61 dX8_realm_5 ?_
  refine kz_v (ci := 3) (q0 := 0) (n := 1) S hRf hRl hK hA hZ hP hD hS hl [13, 14, 15, 8, 9, 10, 11, 12] [.ref (uG 0)] [] (kR_read l D uR uT uG cI cB cR cM cJ t σR σT σG r σR1 σT1 σG1 hrd) pw_cRTG rfl rfl gX8_realm_X4_read rfl (by decide +kernel) rfl ⟨by decide, by decide⟩ rfl rfl rfl rfl (Nat.le_of_ble_eq_true rfl) dX8_realm_8 (fun H locs hP hD hS => ?_)
  rw [pw_kRTG] at hP hD
  refine W.eq (g2 := F0 m 11 ls [.int r]) rfl ?_
  refine lv_istore_n (lv' := [(1, .int r), (0, .ref (uP 0))]) hx hb dX8_realm_11 rfl hl (by decide) rfl (fun ls hl => ?_)
  refine lv_aload_n hx hb dX8_realm_12 rfl (lv_at hl 1 rfl) ?_
  refine Pg_3 S hinX8 hK hP f32 dX8_realm_13 ?_
  refine kz_v (ci := 6) (q0 := 0) (n := 0) S hRf hRl hK hA hZ hP hD hS hl [14, 15] [] [] (kT_empty l D uT cI cB cR cM cJ t σT1 σT2 hem) pw_cT rfl rfl gX8_realm_X7_empty rfl (by decide +kernel) rfl ⟨by decide, by decide⟩ rfl rfl rfl rfl (Nat.le_of_ble_eq_true rfl) dX8_realm_16 (fun H locs hP hD hS => ?_)
  rw [pw_kT] at hP hD
  refine W.eq (g2 := F0 m 19 ls []) rfl ?_
  refine lv_iload_n hx hb dX8_realm_19 rfl (lv_at hl 0 rfl) ?_
  refine lv_if_ne (tgt := 45) hx hb dX8_realm_20 (by decide) (fun c1 => ?_) (fun c1 => absurd c1 hr0)
  refine lv_aload_n hx hb dX8_realm_45 rfl (lv_at hl 1 rfl) ?_
  refine Pg_7 S hinX8 hK hP f57 dX8_realm_46 ?_
  refine lv_astore_n (lv' := [(2, .ref (uL 0)), (1, .int r), (0, .ref (uP 0))]) hx hb dX8_realm_49 rfl hl (by decide) rfl (fun ls hl => ?_)
  refine lv_aload_n hx hb dX8_realm_50 rfl (lv_at hl 2 rfl) ?_
  refine lv_aload_n hx hb dX8_realm_51 rfl (lv_at hl 2 rfl) ?_
  refine Pg_8 S hinX8 hK hP f61 dX8_realm_52 ?_
  refine va_put (D := D) (ci := 7) (v := .ref (uG 0)) (ty := .object "PenniesAway$Realm") (C := RX8) (T := TX8) (N := 11) hx hb hts hinX8 tyX8 tyX8_ok nmX8 hown hK hP hD hS 0 rfl rfl 7 (by decide) f57 (fun _ h9 => h9) rfl (by decide +kernel) rfl rfl (Nat.le_of_ble_eq_true rfl) dX8_realm_55 (fun H locs hP hD hS => ?_)
  replace hP : va_P D vwCl (pwR [.ref (uP 1), .ref (uP 2), .ref (uR 0), .ref (uT 0), .ref (uK 0), .ref (uC 0), .ref (uA 0), .ref (uG 0), .ref (uG 0), .int (σP.1 9), .int (σP.1 10)] uP uL uG uR uT uC uA uK uW uI cI cB cR cM cJ σL σG1 σR1 σT2 σC σA σK ω ι) H := hP
  replace hD : va_D A (pwR [.ref (uP 1), .ref (uP 2), .ref (uR 0), .ref (uT 0), .ref (uK 0), .ref (uC 0), .ref (uA 0), .ref (uG 0), .ref (uG 0), .int (σP.1 9), .int (σP.1 10)] uP uL uG uR uT uC uA uK uW uI cI cB cR cM cJ σL σG1 σR1 σT2 σC σA σK ω ι) := hD
  refine lv_aload_n hx hb dX8_realm_58 rfl (lv_at hl 2 rfl) ?_
  refine lv_aload_n hx hb dX8_realm_59 rfl (lv_at hl 0 rfl) ?_
  refine va_put (D := D) (ci := 7) (v := .ref (uL 0)) (ty := .object "PenniesAway$Realm") (C := RX8) (T := TX8) (N := 11) hx hb hts hinX8 tyX8 tyX8_ok nmX8 hown hK hP hD hS 0 rfl rfl 8 (by decide) f61 (fun _ h9 => h9) rfl (by decide +kernel) rfl rfl (Nat.le_of_ble_eq_true rfl) dX8_realm_60 (fun H locs hP hD hS => ?_)
  replace hP : va_P D vwCl (pwR [.ref (uP 1), .ref (uP 2), .ref (uR 0), .ref (uT 0), .ref (uK 0), .ref (uC 0), .ref (uA 0), .ref (uG 0), .ref (uL 0), .int (σP.1 9), .int (σP.1 10)] uP uL uG uR uT uC uA uK uW uI cI cB cR cM cJ σL σG1 σR1 σT2 σC σA σK ω ι) H := hP
  replace hD : va_D A (pwR [.ref (uP 1), .ref (uP 2), .ref (uR 0), .ref (uT 0), .ref (uK 0), .ref (uC 0), .ref (uA 0), .ref (uG 0), .ref (uL 0), .int (σP.1 9), .int (σP.1 10)] uP uL uG uR uT uC uA uK uW uI cI cB cR cM cJ σL σG1 σR1 σT2 σC σA σK ω ι) := hD
  replace hP : va_P D vwCl (pw uP uG uL uR uT uC uA uK uW uI cI cB cR cM cJ σP σG1 σL σR1 σT2 σC σA σK ω ι) H := vp_swap hP
  replace hD : va_D A (pw uP uG uL uR uT uC uA uK uW uI cI cB cR cM cJ σP σG1 σL σR1 σT2 σC σA σK ω ι) := vd_swap hD
  refine lv_aload_n hx hb dX8_realm_63 rfl (lv_at hl 2 rfl) ?_
  refine Pg_4 S hinX8 hK hP f38 dX8_realm_64 ?_
  refine kz_v (ci := 0) (q0 := 0) (n := 0) S hRf hRl hK hA hZ hP hD hS hl [21, 22, 23, 24, 25, 26, 27, 28, 29, 30, 31, 32, 33, 34, 35, 36, 37, 38, 39, 40, 41, 42, 43, 44, 45, 46] [] [] (kK_forgetAll l D uK cI cB cR cM cJ t σK σK1 hfa) pw_cK rfl rfl gX8_realm_X0_forgetAll rfl (by decide +kernel) rfl ⟨by decide, by decide⟩ rfl rfl rfl rfl (Nat.le_of_ble_eq_true rfl) dX8_realm_67 (fun H locs hP hD hS => ?_)
  rw [pw_kK] at hP hD
  refine W.eq (g2 := F0 m 70 ls []) rfl ?_
  refine lv_aload_n hx hb dX8_realm_70 rfl (lv_at hl 2 rfl) ?_
  refine Pg_7 S hinX8 hK hP f57 dX8_realm_71 ?_
  refine Lg_7 S hinX5 hK hP 3 rfl f150 dX8_realm_74 ?_
  exact hret _ _ _ _ hP hD hS dX8_realm_77
