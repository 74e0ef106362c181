theorem lw_lt {i L : Nat} (h : L < i + 6) (hi : i < 100000) (hL : L < 100000) : Int32.ofNat L - 6 < nI i := by
  rw [Int32.lt_iff_toInt_lt, nI_toInt (by omega), show (Int32.ofNat L - 6 : Int32) = nI L - nI 6 from rfl, pk_sub_toInt (by omega) (by omega)]
  omega
theorem lw_nlt {i L : Nat} (h : i + 6 ≤ L) (hL : L < 100000) : ¬ Int32.ofNat L - 6 < nI i := by
  rw [Int32.lt_iff_toInt_lt, nI_toInt (by omega), show (Int32.ofNat L - 6 : Int32) = nI L - nI 6 from rfl, pk_sub_toInt (by omega) (by omega)]
  omega
set_option maxHeartbeats 4000000 in
set_option maxRecDepth 100000 in
theorem law_loop (Rel : Nat → MS → MS → MS → MS → MS → MS → MS → MS → (Nat → MS) → (Nat → MS) → MS → Prop) (h_row : Sim_row Rel) (h_set : Sim_set Rel) (h_copy : Sim_copy Rel) (h_drop : Sim_drop Rel) (h_feed : Sim_feed Rel) (h_realm : Sim_realm Rel) (h_fault : Sim_fault Rel) (h_pass : Sim_pass Rel) (h_send : Sim_send Rel) (h_sendAll : Sim_sendAll Rel) (h_days : Sim_days Rel) (h_flood : Sim_flood Rel) (h_undo : Sim_undo Rel) (h_coin : Sim_coin Rel) (h_far : Sim_far Rel) (h_late : Sim_late Rel) (h_mustGo : Sim_mustGo Rel) (h_save : Sim_save Rel) (h_tour : Sim_tour Rel) (h_mint : Sim_mint Rel) (h_sounds : Sim_sounds Rel) (h_ear : Sim_ear Rel) (h_image : Sim_image Rel) (h_restore : Sim_restore Rel) (h_kind : Sim_kind Rel) (h_as : Sim_as Rel) (h_ask : Sim_ask Rel) (h_trace : Sim_trace Rel) (h_count : Sim_count Rel) (h_status : Sim_status Rel) (hmono : ∀ k σP σL σG σR σT σC σA σK ω ι σ, Rel k σP σL σG σR σT σC σA σK ω ι σ → Rel (k + 1) σP σL σG σR σT σC σA σK ω ι σ) {p : Program} {e : Env} {s : State} {m : MethodId} {below : List Frame} {meth : Method} {c : Code} {l : Launch} {b L : Nat} {xs : Nat → Int32} {D : va_G} {cI cB cR cM cJ cZ : ClassId} {t : Nat → Nat} (C0 : lw_At p s m meth c b L xs) (hKC : va_K D vwCl (ctys cI cB cR cM cJ) s) (hKM : va_K D vwCl [(cI, .int), (cZ, .boolean)] s) (hZ : ZZ t (fun q : Nat => s.heap.size ≤ q) s) (hL : L ≤ 3072) (uM : Nat → Nat) : ∀ (n i kk : Nat), i = 6 * kk → L ≤ i + n → ∀ (uP uL uG uR uT uC uA uK : Nat → Nat) (uW uI : Nat → Nat → Nat) (σP σL σG σR σT σC σA σK : MS) (ω ι : Nat → MS) (σ : MS) (ls : Array Slot) (H : Heap) (locs : List Loc), Rel kk σP σL σG σR σT σC σA σK ω ι σ → lv_has ls 4 [(0, .ref b), (1, .ref (uP 0)), (2, .ref (uM 0)), (3, .int (nI i))] → va_P D vwCl ((pw uP uL uG uR uT uC uA uK uW uI cI cB cR cM cJ σP σL σG σR σT σC σA σK ω ι) ++ mw uM cI cZ σ) H → va_D (fun q : Nat => s.heap.size ≤ q) ((pw uP uL uG uR uT uC uA uK uW uI cI cB cR cM cJ σP σL σG σR σT σC σA σK ω ι) ++ mw uM cI cZ σ) → va_S (fun q : Nat => s.heap.size ≤ q) s.heap H locs → i ≤ 4000 → W p l e room_1 s m #[Value.ref b] below meth c H locs 86 8016 (lw_Z below #[Value.ref b] s) (F0 m 18 ls []) := by
  obtain ⟨hx, hb, hr, hml, hown, hts, hX, hbl, hlocks, hgv⟩ := id C0
  have hA : ∀ q : Nat, s.heap.size ≤ q → (fun q : Nat => s.heap.size ≤ q) q := fun _ h => h
  have hbA : ¬ (fun q : Nat => s.heap.size ≤ q) b := Nat.not_le.mpr hbl
  intro n
  induction n with
  | zero =>
    intro i kk hik hn uP uL uG uR uT uC uA uK uW uI σP σL σG σR σT σC σA σK ω ι σ ls H locs hrel hl hP hD hS hi4
    refine lv_iload_n hx hb dL_law_18 rfl (lv_at hl 3 rfl) ?_
    refine lv_aload_n hx hb dL_law_19 rfl (lv_at hl 0 rfl) ?_
    refine va_slen hx hb hX hbl hbA hS dL_law_20 ?_
    refine lv_bipush (v := 6) hx hb dL_law_21 (by decide) ?_
    refine lv_isub hx hb dL_law_23 ?_
    refine lv_icmp_gt (tgt := 1064) hx hb dL_law_24 (by decide) (fun c1 => ?_) (fun c1 => ?_)
    · refine lv_iconst (v := 1) hx hb dL_law_1064 (by decide) ?_
      refine va_forget (fun q hq => hS.2.2 q hq) ?_
      refine W.widen (k := 600000) (n := 7302250) (by decide) (by decide) ?_
      exact lw_ret hx hb hr hlocks dL_law_1065
    · exact absurd (lw_lt (by omega) (by omega) (by omega)) c1
  | succ n ih =>
    intro i kk hik hn uP uL uG uR uT uC uA uK uW uI σP σL σG σR σT σC σA σK ω ι σ ls H locs hrel hl hP hD hS hi4
    refine lv_iload_n hx hb dL_law_18 rfl (lv_at hl 3 rfl) ?_
    refine lv_aload_n hx hb dL_law_19 rfl (lv_at hl 0 rfl) ?_
    refine va_slen hx hb hX hbl hbA hS dL_law_20 ?_
    refine lv_bipush (v := 6) hx hb dL_law_21 (by decide) ?_
    refine lv_isub hx hb dL_law_23 ?_
    rcases Nat.lt_or_ge L (i + 6) with h7 | h6
    · refine lv_icmp_gt (tgt := 1064) hx hb dL_law_24 (by decide) (fun c1 => ?_) (fun c1 => absurd (lw_lt (by omega) (by omega) (by omega)) c1)
      refine lv_iconst (v := 1) hx hb dL_law_1064 (by decide) ?_
      refine va_forget (fun q hq => hS.2.2 q hq) ?_
      refine W.widen (k := 600000) (n := 7302250) (by decide) (by decide) ?_
      exact lw_ret hx hb hr hlocks dL_law_1065
    refine lv_icmp_gt (tgt := 1064) hx hb dL_law_24 (by decide) (fun c1 => absurd c1 (lw_nlt h6 (by omega))) (fun c1 => ?_)
    have hnext : ∀ (uP uL uG uR uT uC uA uK : Nat → Nat) (uW uI : Nat → Nat → Nat) (σP σL σG σR σT σC σA σK : MS) (ω ι : Nat → MS) (σ : MS) (ls : Array Slot) (H : Heap) (locs : List Loc), Rel (kk + 1) σP σL σG σR σT σC σA σK ω ι σ → lv_has ls 4 [(0, .ref b), (1, .ref (uP 0)), (2, .ref (uM 0)), (3, .int (nI i))] → va_P D vwCl ((pw uP uL uG uR uT uC uA uK uW uI cI cB cR cM cJ σP σL σG σR σT σC σA σK ω ι) ++ mw uM cI cZ σ) H → va_D (fun q : Nat => s.heap.size ≤ q) ((pw uP uL uG uR uT uC uA uK uW uI cI cB cR cM cJ σP σL σG σR σT σC σA σK ω ι) ++ mw uM cI cZ σ) → va_S (fun q : Nat => s.heap.size ≤ q) s.heap H locs → W p l e room_1 s m #[Value.ref b] below meth c H locs 86 8016 (lw_Z below #[Value.ref b] s) (F0 m 1058 ls []) := by
      intro uP uL uG uR uT uC uA uK uW uI σP σL σG σR σT σC σA σK ω ι σ ls H locs hrel hl hP hD hS
      refine lv_iinc (v := nI (i + 6)) (lv' := [(3, .int (nI (i + 6))), (0, .ref b), (1, .ref (uP 0)), (2, .ref (uM 0))]) hx hb dL_law_1058 hl (k := 3) rfl (by rw [← nI_add]; rfl) (by decide) rfl (fun ls hl => ?_)
      refine lv_goto (tgt := 18) hx hb dL_law_1061 (by decide) ?_
      exact ih (i + 6) (kk + 1) (by omega) (by omega) uP uL uG uR uT uC uA uK uW uI σP σL σG σR σT σC σA σK ω ι σ ls H locs hrel (lv_sub hl [1, 2, 3, 0] rfl) hP hD hS (by omega)
    refine lv_aload_n hx hb dL_law_27 rfl (lv_at hl 0 rfl) ?_
    refine lv_iload_n hx hb dL_law_28 rfl (lv_at hl 3 rfl) ?_
    refine va_sld hx hb hX hbl hbA hS (vp_in_nI (by omega) (by omega)) dL_law_29 ?_
    refine lv_bipush (v := 31) hx hb dL_law_30 (by decide) ?_
    refine lv_iand hx hb dL_law_32 ?_
    obtain ⟨j, hj, ez⟩ := pk_andE (xs (Int32.toNatClampNeg (nI i))) (m := 31) 5 (by decide)
    rw [ez]
    rcases (show (j = 0 ∨ j = 1 ∨ j = 2 ∨ j = 3 ∨ j = 4 ∨ j = 5 ∨ j = 6 ∨ j = 7 ∨ j = 8 ∨ j = 9 ∨ j = 10 ∨ j = 11 ∨ j = 12 ∨ j = 13 ∨ j = 14 ∨ j = 15 ∨ j = 16 ∨ j = 17 ∨ j = 18 ∨ j = 19 ∨ j = 20 ∨ j = 21 ∨ j = 22 ∨ j = 23 ∨ j = 24 ∨ j = 25 ∨ j = 26 ∨ j = 27 ∨ j = 28 ∨ j = 29 ∨ j = 30 ∨ j = 31) by omega) with rfl | rfl | rfl | rfl | rfl | rfl | rfl | rfl | rfl | rfl | rfl | rfl | rfl | rfl | rfl | rfl | rfl | rfl | rfl | rfl | rfl | rfl | rfl | rfl | rfl | rfl | rfl | rfl | rfl | rfl | rfl | rfl
    · refine lv_tableIn (off := 135) (tgt := 168) hx hb dL_law_33 (by decide) (by decide) (by decide) (by decide) ?_
      exact law_row Rel h_row C0 hKC hKM hZ i kk (by omega) h6 hL uM uP uL uG uR uT uC uA uK uW uI σP σL σG σR σT σC σA σK ω ι σ ls H locs hnext hrel hl hP hD hS
    · refine lv_tableIn (off := 178) (tgt := 211) hx hb dL_law_33 (by decide) (by decide) (by decide) (by decide) ?_
      exact law_set Rel h_set C0 hKC hKM hZ i kk (by omega) h6 hL uM uP uL uG uR uT uC uA uK uW uI σP σL σG σR σT σC σA σK ω ι σ ls H locs hnext hrel hl hP hD hS
    · refine lv_tableIn (off := 221) (tgt := 254) hx hb dL_law_33 (by decide) (by decide) (by decide) (by decide) ?_
      exact law_copy Rel h_copy C0 hKC hKM hZ i kk (by omega) h6 hL uM uP uL uG uR uT uC uA uK uW uI σP σL σG σR σT σC σA σK ω ι σ ls H locs hnext hrel hl hP hD hS
    · refine lv_tableIn (off := 284) (tgt := 317) hx hb dL_law_33 (by decide) (by decide) (by decide) (by decide) ?_
      exact law_drop Rel h_drop C0 hKC hKM hZ i kk (by omega) h6 hL uM uP uL uG uR uT uC uA uK uW uI σP σL σG σR σT σC σA σK ω ι σ ls H locs hnext hrel hl hP hD hS
    · refine lv_tableIn (off := 307) (tgt := 340) hx hb dL_law_33 (by decide) (by decide) (by decide) (by decide) ?_
      exact law_feed Rel h_feed C0 hKC hKM hZ i kk (by omega) h6 hL uM uP uL uG uR uT uC uA uK uW uI σP σL σG σR σT σC σA σK ω ι σ ls H locs hnext hrel hl hP hD hS
    · refine lv_tableIn (off := 370) (tgt := 403) hx hb dL_law_33 (by decide) (by decide) (by decide) (by decide) ?_
      exact law_realm Rel h_realm C0 hKC hKM hZ i kk (by omega) h6 hL uM uP uL uG uR uT uC uA uK uW uI σP σL σG σR σT σC σA σK ω ι σ ls H locs hnext hrel hl hP hD hS
    · refine lv_tableIn (off := 383) (tgt := 416) hx hb dL_law_33 (by decide) (by decide) (by decide) (by decide) ?_
      exact law_fault Rel h_fault C0 hKC hKM hZ i kk (by omega) h6 hL uM uP uL uG uR uT uC uA uK uW uI σP σL σG σR σT σC σA σK ω ι σ ls H locs hnext hrel hl hP hD hS
    · refine lv_tableIn (off := 396) (tgt := 429) hx hb dL_law_33 (by decide) (by decide) (by decide) (by decide) ?_
      exact law_pass Rel h_pass C0 hKC hKM hZ i kk (by omega) h6 hL uM uP uL uG uR uT uC uA uK uW uI σP σL σG σR σT σC σA σK ω ι σ ls H locs hnext hrel hl hP hD hS
    · refine lv_tableIn (off := 429) (tgt := 462) hx hb dL_law_33 (by decide) (by decide) (by decide) (by decide) ?_
      exact law_send Rel h_send C0 hKC hKM hZ i kk (by omega) h6 hL uM uP uL uG uR uT uC uA uK uW uI σP σL σG σR σT σC σA σK ω ι σ ls H locs hnext hrel hl hP hD hS
    · refine lv_tableIn (off := 452) (tgt := 485) hx hb dL_law_33 (by decide) (by decide) (by decide) (by decide) ?_
      exact law_sendAll Rel h_sendAll C0 hKC hKM hZ i kk (by omega) h6 hL uM uP uL uG uR uT uC uA uK uW uI σP σL σG σR σT σC σA σK ω ι σ ls H locs hnext hrel hl hP hD hS
    · refine lv_tableIn (off := 495) (tgt := 528) hx hb dL_law_33 (by decide) (by decide) (by decide) (by decide) ?_
      exact law_days Rel h_days C0 hKC hKM hZ i kk (by omega) h6 hL uM uP uL uG uR uT uC uA uK uW uI σP σL σG σR σT σC σA σK ω ι σ ls H locs hnext hrel hl hP hD hS
    · refine lv_tableIn (off := 518) (tgt := 551) hx hb dL_law_33 (by decide) (by decide) (by decide) (by decide) ?_
      exact law_flood Rel h_flood C0 hKC hKM hZ i kk (by omega) h6 hL uM uP uL uG uR uT uC uA uK uW uI σP σL σG σR σT σC σA σK ω ι σ ls H locs hnext hrel hl hP hD hS
    · refine lv_tableIn (off := 541) (tgt := 574) hx hb dL_law_33 (by decide) (by decide) (by decide) (by decide) ?_
      exact law_undo Rel h_undo C0 hKC hKM hZ i kk (by omega) h6 hL uM uP uL uG uR uT uC uA uK uW uI σP σL σG σR σT σC σA σK ω ι σ ls H locs hnext hrel hl hP hD hS
    · refine lv_tableIn (off := 554) (tgt := 587) hx hb dL_law_33 (by decide) (by decide) (by decide) (by decide) ?_
      exact law_coin Rel h_coin C0 hKC hKM hZ i kk (by omega) h6 hL uM uP uL uG uR uT uC uA uK uW uI σP σL σG σR σT σC σA σK ω ι σ ls H locs hnext hrel hl hP hD hS
    · refine lv_tableIn (off := 587) (tgt := 620) hx hb dL_law_33 (by decide) (by decide) (by decide) (by decide) ?_
      exact law_far Rel h_far C0 hKC hKM hZ i kk (by omega) h6 hL uM uP uL uG uR uT uC uA uK uW uI σP σL σG σR σT σC σA σK ω ι σ ls H locs hnext hrel hl hP hD hS
    · refine lv_tableIn (off := 620) (tgt := 653) hx hb dL_law_33 (by decide) (by decide) (by decide) (by decide) ?_
      exact law_late Rel h_late C0 hKC hKM hZ i kk (by omega) h6 hL uM uP uL uG uR uT uC uA uK uW uI σP σL σG σR σT σC σA σK ω ι σ ls H locs hnext hrel hl hP hD hS
    · refine lv_tableIn (off := 633) (tgt := 666) hx hb dL_law_33 (by decide) (by decide) (by decide) (by decide) ?_
      exact law_mustGo Rel h_mustGo C0 hKC hKM hZ i kk (by omega) h6 hL uM uP uL uG uR uT uC uA uK uW uI σP σL σG σR σT σC σA σK ω ι σ ls H locs hnext hrel hl hP hD hS
    · refine lv_tableIn (off := 656) (tgt := 689) hx hb dL_law_33 (by decide) (by decide) (by decide) (by decide) ?_
      exact law_save Rel h_save C0 hKC hKM hZ i kk (by omega) h6 hL uM uP uL uG uR uT uC uA uK uW uI σP σL σG σR σT σC σA σK ω ι σ ls H locs hnext hrel hl hP hD hS
    · refine lv_tableIn (off := 679) (tgt := 712) hx hb dL_law_33 (by decide) (by decide) (by decide) (by decide) ?_
      exact law_tour Rel h_tour C0 hKC hKM hZ i kk (by omega) h6 hL uM uP uL uG uR uT uC uA uK uW uI σP σL σG σR σT σC σA σK ω ι σ ls H locs hnext hrel hl hP hD hS
    · refine lv_tableIn (off := 712) (tgt := 745) hx hb dL_law_33 (by decide) (by decide) (by decide) (by decide) ?_
      exact law_mint Rel h_mint C0 hKC hKM hZ i kk (by omega) h6 hL uM uP uL uG uR uT uC uA uK uW uI σP σL σG σR σT σC σA σK ω ι σ ls H locs hnext hrel hl hP hD hS
    · refine lv_tableIn (off := 735) (tgt := 768) hx hb dL_law_33 (by decide) (by decide) (by decide) (by decide) ?_
      exact law_sounds Rel h_sounds C0 hKC hKM hZ i kk (by omega) h6 hL uM uP uL uG uR uT uC uA uK uW uI σP σL σG σR σT σC σA σK ω ι σ ls H locs hnext hrel hl hP hD hS
    · refine lv_tableIn (off := 768) (tgt := 801) hx hb dL_law_33 (by decide) (by decide) (by decide) (by decide) ?_
      exact law_ear Rel h_ear C0 hKC hKM hZ i kk (by omega) h6 hL uM uP uL uG uR uT uC uA uK uW uI σP σL σG σR σT σC σA σK ω ι σ ls H locs hnext hrel hl hP hD hS
    · refine lv_tableIn (off := 831) (tgt := 864) hx hb dL_law_33 (by decide) (by decide) (by decide) (by decide) ?_
      exact law_image Rel h_image C0 hKC hKM hZ i kk (by omega) h6 hL uM uP uL uG uR uT uC uA uK uW uI σP σL σG σR σT σC σA σK ω ι σ ls H locs hnext hrel hl hP hD hS
    · refine lv_tableIn (off := 854) (tgt := 887) hx hb dL_law_33 (by decide) (by decide) (by decide) (by decide) ?_
      exact law_restore Rel h_restore C0 hKC hKM hZ i kk (by omega) h6 hL uM uP uL uG uR uT uC uA uK uW uI σP σL σG σR σT σC σA σK ω ι σ ls H locs hnext hrel hl hP hD hS
    · refine lv_tableIn (off := 877) (tgt := 910) hx hb dL_law_33 (by decide) (by decide) (by decide) (by decide) ?_
      exact law_kind Rel h_kind C0 hKC hKM hZ i kk (by omega) h6 hL uM uP uL uG uR uT uC uA uK uW uI σP σL σG σR σT σC σA σK ω ι σ ls H locs hnext hrel hl hP hD hS
    · refine lv_tableIn (off := 900) (tgt := 933) hx hb dL_law_33 (by decide) (by decide) (by decide) (by decide) ?_
      exact law_as Rel h_as C0 hKC hKM hZ i kk (by omega) h6 hL uM uP uL uG uR uT uC uA uK uW uI σP σL σG σR σT σC σA σK ω ι σ ls H locs hnext hrel hl hP hD hS
    · refine lv_tableIn (off := 933) (tgt := 966) hx hb dL_law_33 (by decide) (by decide) (by decide) (by decide) ?_
      exact law_ask Rel h_ask C0 hKC hKM hZ i kk (by omega) h6 hL uM uP uL uG uR uT uC uA uK uW uI σP σL σG σR σT σC σA σK ω ι σ ls H locs hnext hrel hl hP hD hS
    · refine lv_tableIn (off := 966) (tgt := 999) hx hb dL_law_33 (by decide) (by decide) (by decide) (by decide) ?_
      exact law_trace Rel h_trace C0 hKC hKM hZ i kk (by omega) h6 hL uM uP uL uG uR uT uC uA uK uW uI σP σL σG σR σT σC σA σK ω ι σ ls H locs hnext hrel hl hP hD hS
    · refine lv_tableIn (off := 989) (tgt := 1022) hx hb dL_law_33 (by decide) (by decide) (by decide) (by decide) ?_
      exact law_count Rel h_count C0 hKC hKM hZ i kk (by omega) h6 hL uM uP uL uG uR uT uC uA uK uW uI σP σL σG σR σT σC σA σK ω ι σ ls H locs hnext hrel hl hP hD hS
    · refine lv_tableIn (off := 1012) (tgt := 1045) hx hb dL_law_33 (by decide) (by decide) (by decide) (by decide) ?_
      exact law_status Rel h_status C0 hKC hKM hZ i kk (by omega) h6 hL uM uP uL uG uR uT uC uA uK uW uI σP σL σG σR σT σC σA σK ω ι σ ls H locs hnext hrel hl hP hD hS
    · refine lv_tableOut (tgt := 1058) hx hb dL_law_33 (by decide) (by decide) ?_
      exact hnext uP uL uG uR uT uC uA uK uW uI σP σL σG σR σT σC σA σK ω ι σ ls H locs (hmono kk _ _ _ _ _ _ _ _ _ _ _ hrel) hl hP hD hS
    · refine lv_tableOut (tgt := 1058) hx hb dL_law_33 (by decide) (by decide) ?_
      exact hnext uP uL uG uR uT uC uA uK uW uI σP σL σG σR σT σC σA σK ω ι σ ls H locs (hmono kk _ _ _ _ _ _ _ _ _ _ _ hrel) hl hP hD hS
