def zTab (e : Nat) (j : Nat) : Int32 := if e = 1 then zSIZE j else zMARK j
def FA_bodyFor_49 (σA : MS) (l2 : Nat) (l3 : Int32) : Option Int32 :=
  gd (l2 = 1 ∨ l2 = 2) (gd (¬ ((l3 : Int32) < 0 ∨ 6 ≤ Int32.toNatClampNeg l3)) (some ((zTab l2 (Int32.toNatClampNeg l3)))))
def FA_bodyFor_22 : Nat → MS → Nat → Int32 → Int32 → Option Int32
  | 0, _, _, _, _ => none
  | n + 1, σA, l2, l3, l4 => if 5 ≤ l4 then (FA_bodyFor_49 σA l2 l3) else (gd (l2 = 1 ∨ l2 = 2) (gd (¬ ((l3 : Int32) < 0 ∨ 6 ≤ Int32.toNatClampNeg l3)) (if (zTab l2 (Int32.toNatClampNeg l3)) = 0 then (Option.bind (FK_nextOf l3) fun (r7 : Int32) => nm (if r7 < 0 then 0 else r7) fun (x8 : Int32) => nm (l4 + 1) fun (x9 : Int32) => (FA_bodyFor_22 n) σA l2 x8 x9) else (FA_bodyFor_49 σA l2 l3))))
def FA_bodyFor_13 (σA : MS) (s0 : Nat) : Option Int32 :=
  nm (σA.1 3) fun (x2 : Int32) => FA_bodyFor_22 fuelN σA s0 x2 0
def FA_bodyFor (σA : MS) (a1 : Int32) : Option Int32 :=
  if a1 = 0 then (FA_bodyFor_13 σA 1) else (FA_bodyFor_13 σA 2)
set_option maxHeartbeats 4000000 in
set_option maxRecDepth 100000 in
theorem kA_bodyFor (l : Launch) (D : va_G) (uA : Nat → Nat) (cI cB cR cM cJ : ClassId) (t : Nat → Nat) (σA : MS) (a1 : Int32) (r : Int32) (hf : FA_bodyFor σA a1 = some (r)) : KZ l D (ctys cI cB cR cM cJ) t yX1_bodyFor wsX1_bodyFor 2 42 [.ref (uA 0), .int a1] (xA uA cI cB cR cM cJ σA) (some (.int r)) (xA uA cI cB cR cM cJ σA) := by
  refine KZ.ofI (own := RX1) (cc := cX1_bodyFor) (maxL := 5) (by decide) rfl rfl (Nat.le_of_ble_eq_true rfl) ?_
  intro p e s m args below meth c R Q A ls S hRf hRl hK hA hP hD hS hl hZ hret
  obtain ⟨hx, hb, hml, hown, hts⟩ := id S
  have f58 := hts (.fieldLink RX1 58 "PenniesAway$Asker" "MARK_BODIES" "[I") (by decide +kernel)
  have f55 := hts (.fieldLink RX1 55 "PenniesAway$Asker" "SIZE_BODIES" "[I") (by decide +kernel)
  have f22 := hts (.fieldLink RX1 22 "PenniesAway$Asker" "kindAsked" "I") (by decide +kernel)
  have hinX1 : ∀ w ∈ wsX10, w ∈ wsX1_bodyFor := fun w hw => List.mem_cons_of_mem _ (List.mem_append_right _ hw)
  have ml66 := hts (.methodLink RX1 66 Lib.Math.max.name) (by decide +kernel)
  have msmax := hts (.static Lib.Math.max.name) (by decide +kernel)
  have mini := hts (.initialized "java/lang/Math") (by decide +kernel)
  have mcmax := hts (.code Lib.Math.max.name Lib.Math.max.code 2 (some .int)) (by decide +kernel)
  have hl : lv_has ls 5 [(0, .ref (uA 0)), (1, .int a1)] := hl
  have hre : ∀ (x : Int32) (pc : Nat) (ls : Array Slot) (H : Heap) (locs : List Loc), (some (x) : Option Int32) = some (r) → va_P D vwCl (xA uA cI cB cR cM cJ σA) H → va_D A (xA uA cI cB cR cM cJ σA) → va_S A s.heap H locs → decode cX1_bodyFor pc = .ok (.ireturn, 1) → W p l e R s m args below meth c H locs 0 0 Q (F0 m pc ls [.int x]) := by intro x pc ls H locs he; cases he; exact hret pc ls H locs
  have b49 : ∀ (l2 : Nat) (l3 : Int32) (ls : Array Slot) (H : Heap) (locs : List Loc), FA_bodyFor_49 σA l2 l3 = some (r) → lv_has ls 5 [(2, .ref (t l2)), (3, .int l3)] → va_P D vwCl (xA uA cI cB cR cM cJ σA) H → va_D A (xA uA cI cB cR cM cJ σA) → va_S A s.heap H locs → W p l e R s m args below meth c H locs 0 0 Q (F0 m 49 ls []) := by
    intro l2 l3 ls H locs hf hl hP hD hS
    unfold FA_bodyFor_49 at hf
    refine lv_aload_n hx hb dX1_bodyFor_49 rfl (lv_at hl 0 rfl) ?_
    refine lv_iload_n hx hb dX1_bodyFor_50 rfl (lv_at hl 1 rfl) ?_
    obtain ⟨g10, hf⟩ := gd_some hf
    obtain ⟨g11, hf⟩ := gd_some hf
    have hTg10 : va_T .int (t l2) 6 (fun j => .int (zTab l2 j)) A s s.heap := by rcases g10 with e9 | e9 <;> (rw [e9]; first | exact hZ.2.1.2.2.2.1 | exact hZ.2.1.2.2.2.2.2)
    refine va_ti hx hb hTg10 hS g11 rfl dX1_bodyFor_51 ?_
    exact hre _ _ _ _ _ hf hP hD hS dX1_bodyFor_52
  have b22 : ∀ (n : Nat), ∀ (l2 : Nat) (l3 : Int32) (l4 : Int32) (ls : Array Slot) (H : Heap) (locs : List Loc), FA_bodyFor_22 n σA l2 l3 l4 = some (r) → lv_has ls 5 [(2, .ref (t l2)), (3, .int l3), (4, .int l4)] → va_P D vwCl (xA uA cI cB cR cM cJ σA) H → va_D A (xA uA cI cB cR cM cJ σA) → va_S A s.heap H locs → W p l e R s m args below meth c H locs 0 0 Q (F0 m 22 ls []) := by
    intro n
    induction n with
    | zero => intro l2 l3 l4 ls H locs hf; exact absurd hf (by simp [FA_bodyFor_22])
    | succ n ih =>
      intro l2 l3 l4 ls H locs hf hl hP hD hS
      rw [FA_bodyFor_22] at hf
      refine lv_iload hx hb dX1_bodyFor_22 (lv_at hl 2 rfl) ?_
      refine lv_iconst (v := 5) hx hb dX1_bodyFor_24 (by decide) ?_
      refine lv_icmp_ge (tgt := 49) hx hb dX1_bodyFor_25 (by decide) (fun c3 => ?_) (fun c3 => ?_)
      · have hf := (if_pos c3).symm.trans hf
        exact b49 _ _ _ _ _ hf (lv_sub hl [0, 1] rfl) hP hD hS
      · have hf := (if_neg c3).symm.trans hf
        refine lv_aload_n hx hb dX1_bodyFor_28 rfl (lv_at hl 0 rfl) ?_
        refine lv_iload_n hx hb dX1_bodyFor_29 rfl (lv_at hl 1 rfl) ?_
        obtain ⟨g4, hf⟩ := gd_some hf
        obtain ⟨g5, hf⟩ := gd_some hf
        have hTg4 : va_T .int (t l2) 6 (fun j => .int (zTab l2 j)) A s s.heap := by rcases g4 with e9 | e9 <;> (rw [e9]; first | exact hZ.2.1.2.2.2.1 | exact hZ.2.1.2.2.2.2.2)
        refine va_ti hx hb hTg4 hS g5 rfl dX1_bodyFor_30 ?_
        refine lv_if_ne (tgt := 49) hx hb dX1_bodyFor_31 (by decide) (fun c6 => ?_) (fun c6 => ?_)
        · have hf := (if_neg c6).symm.trans hf
          exact b49 _ _ _ _ _ hf (lv_sub hl [0, 1] rfl) hP hD hS
        · have hf := (if_pos c6).symm.trans hf
          refine lv_iload_n hx hb dX1_bodyFor_34 rfl (lv_at hl 1 rfl) ?_
          obtain ⟨r7, hr7, hf⟩ := bi_some hf
          refine kz_s (n := 1) S hRf hRl hK hA hZ hP hD hS hl [] [.int l3] [] (kK_nextOf l D cI cB cR cM cJ t [] l3 r7 hr7) rfl rfl rfl gX1_bodyFor_X3_nextOf rfl (by decide +kernel) rfl ⟨by decide, by decide⟩ rfl (Nat.le_of_ble_eq_true rfl) dX1_bodyFor_35 (fun H locs hP hD hS => ?_)
          replace hP : va_P D vwCl (xA uA cI cB cR cM cJ σA) H := hP
          replace hD : va_D A (xA uA cI cB cR cM cJ σA) := hD
          refine W.eq (g2 := F0 m 38 ls [.int r7]) rfl ?_
          refine lv_iconst (v := 0) hx hb dX1_bodyFor_38 (by decide) ?_
          refine va_mmax hx hb (hml.trans hl.1.symm) hown ml66 msmax mini mcmax (by rw [hRf]; decide) (by rw [hRl]; exact Nat.le_of_ble_eq_true rfl) (Nat.zero_le _) (Nat.zero_le _) dX1_bodyFor_39 ?_
          refine lv_topi (fun x8 ex8 => ?_)
          have hf := nm_at ex8 hf
          refine lv_istore_n (lv' := [(3, .int x8), (2, .ref (t l2)), (4, .int l4)]) hx hb dX1_bodyFor_42 rfl hl (by decide) rfl (fun ls hl => ?_)
          obtain ⟨x9, ex9, hf⟩ := nm_some hf
          refine lv_iinc (v := x9) (lv' := [(4, .int x9), (3, .int x8), (2, .ref (t l2))]) hx hb dX1_bodyFor_43 hl (k := 2) rfl (by rw [ex9]; rfl) (by decide) rfl (fun ls hl => ?_)
          refine lv_goto (tgt := 22) hx hb dX1_bodyFor_46 (by decide) ?_
          exact ih _ _ _ _ _ _ hf (lv_sub hl [2, 1, 0] rfl) hP hD hS
  have b13 : ∀ (s0 : Nat) (ls : Array Slot) (H : Heap) (locs : List Loc), FA_bodyFor_13 σA s0 = some (r) → lv_has ls 5 [(0, .ref (uA 0))] → va_P D vwCl (xA uA cI cB cR cM cJ σA) H → va_D A (xA uA cI cB cR cM cJ σA) → va_S A s.heap H locs → W p l e R s m args below meth c H locs 0 0 Q (F0 m 13 ls [.ref (t s0)]) := by
    intro s0 ls H locs hf hl hP hD hS
    unfold FA_bodyFor_13 at hf
    refine lv_astore_n (lv' := [(2, .ref (t s0)), (0, .ref (uA 0))]) hx hb dX1_bodyFor_13 rfl hl (by decide) rfl (fun ls hl => ?_)
    refine lv_aload_n hx hb dX1_bodyFor_14 rfl (lv_at hl 1 rfl) ?_
    refine Ag_3 S hinX1 hK hP 0 rfl f22 dX1_bodyFor_15 ?_
    refine lv_topi (fun x2 ex2 => ?_)
    have hf := nm_at ex2 hf
    refine lv_istore_n (lv' := [(3, .int x2), (2, .ref (t s0)), (0, .ref (uA 0))]) hx hb dX1_bodyFor_18 rfl hl (by decide) rfl (fun ls hl => ?_)
    refine lv_iconst (v := 0) hx hb dX1_bodyFor_19 (by decide) ?_
    refine lv_istore (lv' := [(4, .int 0), (3, .int x2), (2, .ref (t s0)), (0, .ref (uA 0))]) hx hb dX1_bodyFor_20 hl (by decide) rfl (fun ls hl => ?_)
    exact b22 fuelN _ _ _ _ _ _ hf (lv_sub hl [2, 1, 0] rfl) hP hD hS
  unfold FA_bodyFor at hf
  refine lv_iload_n hx hb dX1_bodyFor_0 rfl (lv_at hl 1 rfl) ?_
  refine lv_if_ne (tgt := 10) hx hb dX1_bodyFor_1 (by decide) (fun c1 => ?_) (fun c1 => ?_)
  · have hf := (if_neg c1).symm.trans hf
    refine va_gets hx hb hZ.2.1.2.2.2.2.1 hS hown f58 (fun _ h9 => h9) dX1_bodyFor_10 ?_
    exact b13 _ _ _ _ hf (lv_sub hl [0] rfl) hP hD hS
  · have hf := (if_pos c1).symm.trans hf
    refine va_gets hx hb hZ.2.1.2.2.1 hS hown f55 (fun _ h9 => h9) dX1_bodyFor_4 ?_
    refine lv_goto (tgt := 13) hx hb dX1_bodyFor_7 (by decide) ?_
    exact b13 _ _ _ _ hf (lv_sub hl [0] rfl) hP hD hS
def FA_begin_B (rc : MS → Int32 → Int32 → Option (Int32 × MS)) (σA : MS) (a1 : Int32) (a2 : Int32) : Option (Int32 × MS) :=
  if a2 ≤ 40 then (Option.bind (FA_note σA a1) fun (σ3 : MS) => nm (a2 + 1) fun (x4 : Int32) => if Int32.toInt a1 < 10 ∨ 24 < Int32.toInt a1 then (some (0, σ3)) else (if a1 = 10 then (some ((σ3.1 4), σ3)) else (if a1 = 11 then (bd2 (rc σ3 10 x4) fun (r23 : Int32) (σ24 : MS) => Option.bind (FA_bodyFor σ24 1) fun (r25 : Int32) => bd2 (rc σ24 r25 x4) fun (r26 : Int32) (σ27 : MS) => some ((r23 + r26), σ27)) else (if a1 = 12 then (bd2 (rc σ3 11 x4) fun (r21 : Int32) (σ22 : MS) => some ((-r21), σ22)) else (if a1 = 13 then (bd2 (rc σ3 10 x4) fun (r19 : Int32) (σ20 : MS) => some ((r19 - 100), σ20)) else (if a1 = 14 then (bd2 (rc σ3 11 x4) fun (r17 : Int32) (σ18 : MS) => some ((2 * r17), σ18)) else (if a1 = 15 then (some (0, σ3)) else (if a1 = 16 then (some (0, σ3)) else (if a1 = 17 then (some (0, σ3)) else (if a1 = 18 then (some (0, σ3)) else (if a1 = 19 then (some (0, σ3)) else (if a1 = 20 then (some ((σ3.1 2), σ3)) else (if a1 = 21 then (bd2 (rc σ3 20 x4) fun (r15 : Int32) (σ16 : MS) => some ((r15 + (σ16.1 5)), σ16)) else (if a1 = 22 then (bd2 (rc σ3 21 x4) fun (r13 : Int32) (σ14 : MS) => some ((r13 - 1000), σ14)) else (if a1 = 23 then (bd2 (rc σ3 20 x4) fun (r8 : Int32) (σ9 : MS) => Option.bind (FA_bodyFor σ9 0) fun (r10 : Int32) => bd2 (rc σ9 r10 x4) fun (r11 : Int32) (σ12 : MS) => some ((r8 - r11), σ12)) else (if a1 = 24 then (bd2 (rc σ3 22 x4) fun (r6 : Int32) (σ7 : MS) => some ((2 * r6), σ7)) else (none))))))))))))))))) else (some (0, σA))
def FA_begin : Nat → MS → Int32 → Int32 → Option (Int32 × MS)
  | 0 => fun _ _ _ => none
  | d + 1 => FA_begin_B (FA_begin d)
set_option maxHeartbeats 4000000 in
set_option maxRecDepth 100000 in
theorem kA_begin (l : Launch) (D : va_G) (uA : Nat → Nat) (cI cB cR cM cJ : ClassId) (t : Nat → Nat) : ∀ (d : Nat) (σA : MS) (a1 : Int32) (a2 : Int32) (r : Int32) (σA' : MS) (hf : FA_begin d σA a1 a2 = some (r, σA')), KZ l D (ctys cI cB cR cM cJ) t yX1_begin wsX1_begin (d + 4) (100 * d + 126) [.ref (uA 0), .int a1, .int a2] (xA uA cI cB cR cM cJ σA) (some (.int r)) (xA uA cI cB cR cM cJ σA') := by
  intro d
  induction d with
  | zero => intro σA a1 a2 r σA' hf; exact absurd hf (by simp [FA_begin])
  | succ d ihd =>
  intro σA a1 a2 r σA' hf
  rw [FA_begin] at hf
  refine KZ.ofI (own := RX1) (cc := cX1_begin) (maxL := 4) (by decide) rfl rfl (Nat.le_of_ble_eq_true rfl) ?_
  intro p e s m args below meth c R Q A ls S hRf hRl hK hA hP hD hS hl hZ hret
  obtain ⟨hx, hb, hml, hown, hts⟩ := id S
  have f28 := hts (.fieldLink RX1 28 "PenniesAway$Asker" "span" "I") (by decide +kernel)
  have hinX1 : ∀ w ∈ wsX10, w ∈ wsX1_begin := fun w hw => List.mem_cons_of_mem _ (List.mem_append_right _ hw)
  have f19 := hts (.fieldLink RX1 19 "PenniesAway$Asker" "number" "I") (by decide +kernel)
  have f25 := hts (.fieldLink RX1 25 "PenniesAway$Asker" "age" "I") (by decide +kernel)
  have hl : lv_has ls 4 [(0, .ref (uA 0)), (1, .int a1), (2, .int a2)] := hl
  have hre : ∀ (x : Int32) (τA : MS) (pc : Nat) (ls : Array Slot) (H : Heap) (locs : List Loc), (some (x, τA) : Option (Int32 × MS)) = some (r, σA') → va_P D vwCl (xA uA cI cB cR cM cJ τA) H → va_D A (xA uA cI cB cR cM cJ τA) → va_S A s.heap H locs → decode cX1_begin pc = .ok (.ireturn, 1) → W p l e R s m args below meth c H locs 0 0 Q (F0 m pc ls [.int x]) := by intro x τA pc ls H locs he; cases he; exact hret pc ls H locs
  unfold FA_begin_B at hf
  refine lv_iload_n hx hb dX1_begin_0 rfl (lv_at hl 2 rfl) ?_
  refine lv_bipush (v := 40) hx hb dX1_begin_1 (by decide) ?_
  refine lv_icmp_le (tgt := 8) hx hb dX1_begin_3 (by decide) (fun c1 => ?_) (fun c1 => ?_)
  · have hf := (if_pos c1).symm.trans hf
    refine lv_aload_n hx hb dX1_begin_8 rfl (lv_at hl 0 rfl) ?_
    refine lv_iload_n hx hb dX1_begin_9 rfl (lv_at hl 1 rfl) ?_
    obtain ⟨σ3, hr2, hf⟩ := bi_some hf
    refine kz_v (ci := 1) (q0 := 0) (n := 1) S hRf hRl hK hA hZ hP hD hS hl [0, 1] [.int a1] [] (kA_note l D uA cI cB cR cM cJ t σA a1 σ3 hr2) rfl rfl rfl gX1_begin_X1_note rfl (by decide +kernel) rfl ⟨by first | decide | omega, by first | decide | omega⟩ rfl rfl rfl rfl (Nat.le_of_ble_eq_true rfl) dX1_begin_10 (fun H locs hP hD hS => ?_)
    replace hP : va_P D vwCl (xA uA cI cB cR cM cJ σ3) H := hP
    replace hD : va_D A (xA uA cI cB cR cM cJ σ3) := hD
    refine W.eq (g2 := F0 m 13 ls []) rfl ?_
    refine lv_iload_n hx hb dX1_begin_13 rfl (lv_at hl 2 rfl) ?_
    refine lv_iconst (v := 1) hx hb dX1_begin_14 (by decide) ?_
    refine lv_iadd hx hb dX1_begin_15 ?_
    refine lv_topi (fun x4 ex4 => ?_)
    have hf := nm_at ex4 hf
    refine lv_istore_n (lv' := [(3, .int x4), (0, .ref (uA 0)), (1, .int a1), (2, .int a2)]) hx hb dX1_begin_16 rfl hl (by decide) rfl (fun ls hl => ?_)
    refine lv_iload_n hx hb dX1_begin_17 rfl (lv_at hl 2 rfl) ?_
    by_cases c5 : Int32.toInt a1 < 10 ∨ 24 < Int32.toInt a1
    · have hf := (if_pos c5).symm.trans hf
      refine lv_tableOut (tgt := 205) hx hb dX1_begin_18 c5 (by decide) ?_
      refine lv_iconst (v := 0) hx hb dX1_begin_205 (by decide) ?_
      exact hre _ _ _ _ _ _ hf hP hD hS dX1_begin_206
    · have hf := (if_neg c5).symm.trans hf
      by_cases c5k10 : a1 = 10
      · have hf := (if_pos c5k10).symm.trans hf
        refine lv_tableIn (tgt := 92) hx hb dX1_begin_18 (by rw [c5k10]; decide) (by rw [c5k10]; decide) (by rw [c5k10]; rfl) (by decide) ?_
        refine lv_aload_n hx hb dX1_begin_92 rfl (lv_at hl 1 rfl) ?_
        refine Ag_4 S hinX1 hK hP 0 rfl f25 dX1_begin_93 ?_
        exact hre _ _ _ _ _ _ hf hP hD hS dX1_begin_96
      · have hf := (if_neg c5k10).symm.trans hf
        by_cases c5k11 : a1 = 11
        · have hf := (if_pos c5k11).symm.trans hf
          refine lv_tableIn (tgt := 97) hx hb dX1_begin_18 (by rw [c5k11]; decide) (by rw [c5k11]; decide) (by rw [c5k11]; rfl) (by decide) ?_
          refine lv_aload_n hx hb dX1_begin_97 rfl (lv_at hl 1 rfl) ?_
          refine lv_bipush (v := 10) hx hb dX1_begin_98 (by decide) ?_
          refine lv_iload_n hx hb dX1_begin_100 rfl (lv_at hl 0 rfl) ?_
          obtain ⟨r23, σ24, hr23, hf⟩ := bd2_some hf
          refine kz_v (ci := 1) (q0 := 0) (n := 2) S hRf hRl hK hA hZ hP hD hS hl [0, 1] [.int 10, .int x4] [] (ihd σ3 10 x4 r23 σ24 hr23) rfl rfl rfl gX1_begin_X1_begin rfl (by decide +kernel) rfl ⟨by first | decide | omega, by first | decide | omega⟩ rfl rfl rfl rfl (Nat.le_of_ble_eq_true rfl) dX1_begin_101 (fun H locs hP hD hS => ?_)
          replace hP : va_P D vwCl (xA uA cI cB cR cM cJ σ24) H := hP
          replace hD : va_D A (xA uA cI cB cR cM cJ σ24) := hD
          refine W.eq (g2 := F0 m 104 ls [.int r23]) rfl ?_
          refine lv_aload_n hx hb dX1_begin_104 rfl (lv_at hl 1 rfl) ?_
          refine lv_aload_n hx hb dX1_begin_105 rfl (lv_at hl 1 rfl) ?_
          refine lv_iconst (v := 1) hx hb dX1_begin_106 (by decide) ?_
          obtain ⟨r25, hr25, hf⟩ := bi_some hf
          refine kz_v (ci := 1) (q0 := 0) (n := 1) S hRf hRl hK hA hZ hP hD hS hl [0, 1] [.int 1] [.ref (uA 0), .int r23] (kA_bodyFor l D uA cI cB cR cM cJ t σ24 1 r25 hr25) rfl rfl rfl gX1_begin_X1_bodyFor rfl (by decide +kernel) rfl ⟨by first | decide | omega, by first | decide | omega⟩ rfl rfl rfl rfl (Nat.le_of_ble_eq_true rfl) dX1_begin_107 (fun H locs hP hD hS => ?_)
          replace hP : va_P D vwCl (xA uA cI cB cR cM cJ σ24) H := hP
          replace hD : va_D A (xA uA cI cB cR cM cJ σ24) := hD
          refine W.eq (g2 := F0 m 110 ls [.int r25, .ref (uA 0), .int r23]) rfl ?_
          refine lv_iload_n hx hb dX1_begin_110 rfl (lv_at hl 0 rfl) ?_
          obtain ⟨r26, σ27, hr26, hf⟩ := bd2_some hf
          refine kz_v (ci := 1) (q0 := 0) (n := 2) S hRf hRl hK hA hZ hP hD hS hl [0, 1] [.int r25, .int x4] [.int r23] (ihd σ24 r25 x4 r26 σ27 hr26) rfl rfl rfl gX1_begin_X1_begin rfl (by decide +kernel) rfl ⟨by first | decide | omega, by first | decide | omega⟩ rfl rfl rfl rfl (Nat.le_of_ble_eq_true rfl) dX1_begin_111 (fun H locs hP hD hS => ?_)
          replace hP : va_P D vwCl (xA uA cI cB cR cM cJ σ27) H := hP
          replace hD : va_D A (xA uA cI cB cR cM cJ σ27) := hD
          refine W.eq (g2 := F0 m 114 ls [.int r26, .int r23]) rfl ?_
          refine lv_iadd hx hb dX1_begin_114 ?_
          exact hre _ _ _ _ _ _ hf hP hD hS dX1_begin_115
        · have hf := (if_neg c5k11).symm.trans hf
          by_cases c5k12 : a1 = 12
          · have hf := (if_pos c5k12).symm.trans hf
            refine lv_tableIn (tgt := 116) hx hb dX1_begin_18 (by rw [c5k12]; decide) (by rw [c5k12]; decide) (by rw [c5k12]; rfl) (by decide) ?_
            refine lv_aload_n hx hb dX1_begin_116 rfl (lv_at hl 1 rfl) ?_
            refine lv_bipush (v := 11) hx hb dX1_begin_117 (by decide) ?_
            refine lv_iload_n hx hb dX1_begin_119 rfl (lv_at hl 0 rfl) ?_
            obtain ⟨r21, σ22, hr21, hf⟩ := bd2_some hf
            refine kz_v (ci := 1) (q0 := 0) (n := 2) S hRf hRl hK hA hZ hP hD hS hl [0, 1] [.int 11, .int x4] [] (ihd σ3 11 x4 r21 σ22 hr21) rfl rfl rfl gX1_begin_X1_begin rfl (by decide +kernel) rfl ⟨by first | decide | omega, by first | decide | omega⟩ rfl rfl rfl rfl (Nat.le_of_ble_eq_true rfl) dX1_begin_120 (fun H locs hP hD hS => ?_)
            replace hP : va_P D vwCl (xA uA cI cB cR cM cJ σ22) H := hP
            replace hD : va_D A (xA uA cI cB cR cM cJ σ22) := hD
            refine W.eq (g2 := F0 m 123 ls [.int r21]) rfl ?_
            refine lv_ineg hx hb dX1_begin_123 ?_
            exact hre _ _ _ _ _ _ hf hP hD hS dX1_begin_124
          · have hf := (if_neg c5k12).symm.trans hf
            by_cases c5k13 : a1 = 13
            · have hf := (if_pos c5k13).symm.trans hf
              refine lv_tableIn (tgt := 125) hx hb dX1_begin_18 (by rw [c5k13]; decide) (by rw [c5k13]; decide) (by rw [c5k13]; rfl) (by decide) ?_
              refine lv_aload_n hx hb dX1_begin_125 rfl (lv_at hl 1 rfl) ?_
              refine lv_bipush (v := 10) hx hb dX1_begin_126 (by decide) ?_
              refine lv_iload_n hx hb dX1_begin_128 rfl (lv_at hl 0 rfl) ?_
              obtain ⟨r19, σ20, hr19, hf⟩ := bd2_some hf
              refine kz_v (ci := 1) (q0 := 0) (n := 2) S hRf hRl hK hA hZ hP hD hS hl [0, 1] [.int 10, .int x4] [] (ihd σ3 10 x4 r19 σ20 hr19) rfl rfl rfl gX1_begin_X1_begin rfl (by decide +kernel) rfl ⟨by first | decide | omega, by first | decide | omega⟩ rfl rfl rfl rfl (Nat.le_of_ble_eq_true rfl) dX1_begin_129 (fun H locs hP hD hS => ?_)
              replace hP : va_P D vwCl (xA uA cI cB cR cM cJ σ20) H := hP
              replace hD : va_D A (xA uA cI cB cR cM cJ σ20) := hD
              refine W.eq (g2 := F0 m 132 ls [.int r19]) rfl ?_
              refine lv_bipush (v := 100) hx hb dX1_begin_132 (by decide) ?_
              refine lv_isub hx hb dX1_begin_134 ?_
              exact hre _ _ _ _ _ _ hf hP hD hS dX1_begin_135
            · have hf := (if_neg c5k13).symm.trans hf
              by_cases c5k14 : a1 = 14
              · have hf := (if_pos c5k14).symm.trans hf
                refine lv_tableIn (tgt := 136) hx hb dX1_begin_18 (by rw [c5k14]; decide) (by rw [c5k14]; decide) (by rw [c5k14]; rfl) (by decide) ?_
                refine lv_iconst (v := 2) hx hb dX1_begin_136 (by decide) ?_
                refine lv_aload_n hx hb dX1_begin_137 rfl (lv_at hl 1 rfl) ?_
                refine lv_bipush (v := 11) hx hb dX1_begin_138 (by decide) ?_
                refine lv_iload_n hx hb dX1_begin_140 rfl (lv_at hl 0 rfl) ?_
                obtain ⟨r17, σ18, hr17, hf⟩ := bd2_some hf
                refine kz_v (ci := 1) (q0 := 0) (n := 2) S hRf hRl hK hA hZ hP hD hS hl [0, 1] [.int 11, .int x4] [.int 2] (ihd σ3 11 x4 r17 σ18 hr17) rfl rfl rfl gX1_begin_X1_begin rfl (by decide +kernel) rfl ⟨by first | decide | omega, by first | decide | omega⟩ rfl rfl rfl rfl (Nat.le_of_ble_eq_true rfl) dX1_begin_141 (fun H locs hP hD hS => ?_)
                replace hP : va_P D vwCl (xA uA cI cB cR cM cJ σ18) H := hP
                replace hD : va_D A (xA uA cI cB cR cM cJ σ18) := hD
                refine W.eq (g2 := F0 m 144 ls [.int r17, .int 2]) rfl ?_
                refine lv_imul hx hb dX1_begin_144 ?_
                exact hre _ _ _ _ _ _ hf hP hD hS dX1_begin_145
              · have hf := (if_neg c5k14).symm.trans hf
                by_cases c5k15 : a1 = 15
                · have hf := (if_pos c5k15).symm.trans hf
                  refine lv_tableIn (tgt := 205) hx hb dX1_begin_18 (by rw [c5k15]; decide) (by rw [c5k15]; decide) (by rw [c5k15]; rfl) (by decide) ?_
                  refine lv_iconst (v := 0) hx hb dX1_begin_205 (by decide) ?_
                  exact hre _ _ _ _ _ _ hf hP hD hS dX1_begin_206
                · have hf := (if_neg c5k15).symm.trans hf
                  by_cases c5k16 : a1 = 16
                  · have hf := (if_pos c5k16).symm.trans hf
                    refine lv_tableIn (tgt := 205) hx hb dX1_begin_18 (by rw [c5k16]; decide) (by rw [c5k16]; decide) (by rw [c5k16]; rfl) (by decide) ?_
                    refine lv_iconst (v := 0) hx hb dX1_begin_205 (by decide) ?_
                    exact hre _ _ _ _ _ _ hf hP hD hS dX1_begin_206
                  · have hf := (if_neg c5k16).symm.trans hf
                    by_cases c5k17 : a1 = 17
                    · have hf := (if_pos c5k17).symm.trans hf
                      refine lv_tableIn (tgt := 205) hx hb dX1_begin_18 (by rw [c5k17]; decide) (by rw [c5k17]; decide) (by rw [c5k17]; rfl) (by decide) ?_
                      refine lv_iconst (v := 0) hx hb dX1_begin_205 (by decide) ?_
                      exact hre _ _ _ _ _ _ hf hP hD hS dX1_begin_206
                    · have hf := (if_neg c5k17).symm.trans hf
                      by_cases c5k18 : a1 = 18
                      · have hf := (if_pos c5k18).symm.trans hf
                        refine lv_tableIn (tgt := 205) hx hb dX1_begin_18 (by rw [c5k18]; decide) (by rw [c5k18]; decide) (by rw [c5k18]; rfl) (by decide) ?_
                        refine lv_iconst (v := 0) hx hb dX1_begin_205 (by decide) ?_
                        exact hre _ _ _ _ _ _ hf hP hD hS dX1_begin_206
                      · have hf := (if_neg c5k18).symm.trans hf
                        by_cases c5k19 : a1 = 19
                        · have hf := (if_pos c5k19).symm.trans hf
                          refine lv_tableIn (tgt := 205) hx hb dX1_begin_18 (by rw [c5k19]; decide) (by rw [c5k19]; decide) (by rw [c5k19]; rfl) (by decide) ?_
                          refine lv_iconst (v := 0) hx hb dX1_begin_205 (by decide) ?_
                          exact hre _ _ _ _ _ _ hf hP hD hS dX1_begin_206
                        · have hf := (if_neg c5k19).symm.trans hf
                          by_cases c5k20 : a1 = 20
                          · have hf := (if_pos c5k20).symm.trans hf
                            refine lv_tableIn (tgt := 146) hx hb dX1_begin_18 (by rw [c5k20]; decide) (by rw [c5k20]; decide) (by rw [c5k20]; rfl) (by decide) ?_
                            refine lv_aload_n hx hb dX1_begin_146 rfl (lv_at hl 1 rfl) ?_
                            refine Ag_2 S hinX1 hK hP 0 rfl f19 dX1_begin_147 ?_
                            exact hre _ _ _ _ _ _ hf hP hD hS dX1_begin_150
                          · have hf := (if_neg c5k20).symm.trans hf
                            by_cases c5k21 : a1 = 21
                            · have hf := (if_pos c5k21).symm.trans hf
                              refine lv_tableIn (tgt := 151) hx hb dX1_begin_18 (by rw [c5k21]; decide) (by rw [c5k21]; decide) (by rw [c5k21]; rfl) (by decide) ?_
                              refine lv_aload_n hx hb dX1_begin_151 rfl (lv_at hl 1 rfl) ?_
                              refine lv_bipush (v := 20) hx hb dX1_begin_152 (by decide) ?_
                              refine lv_iload_n hx hb dX1_begin_154 rfl (lv_at hl 0 rfl) ?_
                              obtain ⟨r15, σ16, hr15, hf⟩ := bd2_some hf
                              refine kz_v (ci := 1) (q0 := 0) (n := 2) S hRf hRl hK hA hZ hP hD hS hl [0, 1] [.int 20, .int x4] [] (ihd σ3 20 x4 r15 σ16 hr15) rfl rfl rfl gX1_begin_X1_begin rfl (by decide +kernel) rfl ⟨by first | decide | omega, by first | decide | omega⟩ rfl rfl rfl rfl (Nat.le_of_ble_eq_true rfl) dX1_begin_155 (fun H locs hP hD hS => ?_)
                              replace hP : va_P D vwCl (xA uA cI cB cR cM cJ σ16) H := hP
                              replace hD : va_D A (xA uA cI cB cR cM cJ σ16) := hD
                              refine W.eq (g2 := F0 m 158 ls [.int r15]) rfl ?_
                              refine lv_aload_n hx hb dX1_begin_158 rfl (lv_at hl 1 rfl) ?_
                              refine Ag_5 S hinX1 hK hP 0 rfl f28 dX1_begin_159 ?_
                              refine lv_iadd hx hb dX1_begin_162 ?_
                              exact hre _ _ _ _ _ _ hf hP hD hS dX1_begin_163
                            · have hf := (if_neg c5k21).symm.trans hf
                              by_cases c5k22 : a1 = 22
                              · have hf := (if_pos c5k22).symm.trans hf
                                refine lv_tableIn (tgt := 164) hx hb dX1_begin_18 (by rw [c5k22]; decide) (by rw [c5k22]; decide) (by rw [c5k22]; rfl) (by decide) ?_
                                refine lv_aload_n hx hb dX1_begin_164 rfl (lv_at hl 1 rfl) ?_
                                refine lv_bipush (v := 21) hx hb dX1_begin_165 (by decide) ?_
                                refine lv_iload_n hx hb dX1_begin_167 rfl (lv_at hl 0 rfl) ?_
                                obtain ⟨r13, σ14, hr13, hf⟩ := bd2_some hf
                                refine kz_v (ci := 1) (q0 := 0) (n := 2) S hRf hRl hK hA hZ hP hD hS hl [0, 1] [.int 21, .int x4] [] (ihd σ3 21 x4 r13 σ14 hr13) rfl rfl rfl gX1_begin_X1_begin rfl (by decide +kernel) rfl ⟨by first | decide | omega, by first | decide | omega⟩ rfl rfl rfl rfl (Nat.le_of_ble_eq_true rfl) dX1_begin_168 (fun H locs hP hD hS => ?_)
                                replace hP : va_P D vwCl (xA uA cI cB cR cM cJ σ14) H := hP
                                replace hD : va_D A (xA uA cI cB cR cM cJ σ14) := hD
                                refine W.eq (g2 := F0 m 171 ls [.int r13]) rfl ?_
                                refine lv_sipush (v := 1000) hx hb dX1_begin_171 (by decide) ?_
                                refine lv_isub hx hb dX1_begin_174 ?_
                                exact hre _ _ _ _ _ _ hf hP hD hS dX1_begin_175
                              · have hf := (if_neg c5k22).symm.trans hf
                                by_cases c5k23 : a1 = 23
                                · have hf := (if_pos c5k23).symm.trans hf
                                  refine lv_tableIn (tgt := 176) hx hb dX1_begin_18 (by rw [c5k23]; decide) (by rw [c5k23]; decide) (by rw [c5k23]; rfl) (by decide) ?_
                                  refine lv_aload_n hx hb dX1_begin_176 rfl (lv_at hl 1 rfl) ?_
                                  refine lv_bipush (v := 20) hx hb dX1_begin_177 (by decide) ?_
                                  refine lv_iload_n hx hb dX1_begin_179 rfl (lv_at hl 0 rfl) ?_
                                  obtain ⟨r8, σ9, hr8, hf⟩ := bd2_some hf
                                  refine kz_v (ci := 1) (q0 := 0) (n := 2) S hRf hRl hK hA hZ hP hD hS hl [0, 1] [.int 20, .int x4] [] (ihd σ3 20 x4 r8 σ9 hr8) rfl rfl rfl gX1_begin_X1_begin rfl (by decide +kernel) rfl ⟨by first | decide | omega, by first | decide | omega⟩ rfl rfl rfl rfl (Nat.le_of_ble_eq_true rfl) dX1_begin_180 (fun H locs hP hD hS => ?_)
                                  replace hP : va_P D vwCl (xA uA cI cB cR cM cJ σ9) H := hP
                                  replace hD : va_D A (xA uA cI cB cR cM cJ σ9) := hD
                                  refine W.eq (g2 := F0 m 183 ls [.int r8]) rfl ?_
                                  refine lv_aload_n hx hb dX1_begin_183 rfl (lv_at hl 1 rfl) ?_
                                  refine lv_aload_n hx hb dX1_begin_184 rfl (lv_at hl 1 rfl) ?_
                                  refine lv_iconst (v := 0) hx hb dX1_begin_185 (by decide) ?_
                                  obtain ⟨r10, hr10, hf⟩ := bi_some hf
                                  refine kz_v (ci := 1) (q0 := 0) (n := 1) S hRf hRl hK hA hZ hP hD hS hl [0, 1] [.int 0] [.ref (uA 0), .int r8] (kA_bodyFor l D uA cI cB cR cM cJ t σ9 0 r10 hr10) rfl rfl rfl gX1_begin_X1_bodyFor rfl (by decide +kernel) rfl ⟨by first | decide | omega, by first | decide | omega⟩ rfl rfl rfl rfl (Nat.le_of_ble_eq_true rfl) dX1_begin_186 (fun H locs hP hD hS => ?_)
                                  replace hP : va_P D vwCl (xA uA cI cB cR cM cJ σ9) H := hP
                                  replace hD : va_D A (xA uA cI cB cR cM cJ σ9) := hD
                                  refine W.eq (g2 := F0 m 189 ls [.int r10, .ref (uA 0), .int r8]) rfl ?_
                                  refine lv_iload_n hx hb dX1_begin_189 rfl (lv_at hl 0 rfl) ?_
                                  obtain ⟨r11, σ12, hr11, hf⟩ := bd2_some hf
                                  refine kz_v (ci := 1) (q0 := 0) (n := 2) S hRf hRl hK hA hZ hP hD hS hl [0, 1] [.int r10, .int x4] [.int r8] (ihd σ9 r10 x4 r11 σ12 hr11) rfl rfl rfl gX1_begin_X1_begin rfl (by decide +kernel) rfl ⟨by first | decide | omega, by first | decide | omega⟩ rfl rfl rfl rfl (Nat.le_of_ble_eq_true rfl) dX1_begin_190 (fun H locs hP hD hS => ?_)
                                  replace hP : va_P D vwCl (xA uA cI cB cR cM cJ σ12) H := hP
                                  replace hD : va_D A (xA uA cI cB cR cM cJ σ12) := hD
                                  refine W.eq (g2 := F0 m 193 ls [.int r11, .int r8]) rfl ?_
                                  refine lv_isub hx hb dX1_begin_193 ?_
                                  exact hre _ _ _ _ _ _ hf hP hD hS dX1_begin_194
                                · have hf := (if_neg c5k23).symm.trans hf
                                  by_cases c5k24 : a1 = 24
                                  · have hf := (if_pos c5k24).symm.trans hf
                                    refine lv_tableIn (tgt := 195) hx hb dX1_begin_18 (by rw [c5k24]; decide) (by rw [c5k24]; decide) (by rw [c5k24]; rfl) (by decide) ?_
                                    refine lv_iconst (v := 2) hx hb dX1_begin_195 (by decide) ?_
                                    refine lv_aload_n hx hb dX1_begin_196 rfl (lv_at hl 1 rfl) ?_
                                    refine lv_bipush (v := 22) hx hb dX1_begin_197 (by decide) ?_
                                    refine lv_iload_n hx hb dX1_begin_199 rfl (lv_at hl 0 rfl) ?_
                                    obtain ⟨r6, σ7, hr6, hf⟩ := bd2_some hf
                                    refine kz_v (ci := 1) (q0 := 0) (n := 2) S hRf hRl hK hA hZ hP hD hS hl [0, 1] [.int 22, .int x4] [.int 2] (ihd σ3 22 x4 r6 σ7 hr6) rfl rfl rfl gX1_begin_X1_begin rfl (by decide +kernel) rfl ⟨by first | decide | omega, by first | decide | omega⟩ rfl rfl rfl rfl (Nat.le_of_ble_eq_true rfl) dX1_begin_200 (fun H locs hP hD hS => ?_)
                                    replace hP : va_P D vwCl (xA uA cI cB cR cM cJ σ7) H := hP
                                    replace hD : va_D A (xA uA cI cB cR cM cJ σ7) := hD
                                    refine W.eq (g2 := F0 m 203 ls [.int r6, .int 2]) rfl ?_
                                    refine lv_imul hx hb dX1_begin_203 ?_
                                    exact hre _ _ _ _ _ _ hf hP hD hS dX1_begin_204
                                  · have hf := (if_neg c5k24).symm.trans hf
                                    exact absurd hf (by simp)
  · have hf := (if_neg c1).symm.trans hf
    refine lv_iconst (v := 0) hx hb dX1_begin_6 (by decide) ?_
    exact hre _ _ _ _ _ _ hf hP hD hS dX1_begin_7
def FA_answer (σA : MS) (σL : MS) (a2 : Int32) (a3 : Int32) : Option (Int32 × MS) :=
  nm (setF σA 1 0) fun (σ1 : MS) => nm (setF σ1 2 a2) fun (σ2 : MS) => gd (¬ ((a2 : Int32) < 0 ∨ 12 ≤ Int32.toNatClampNeg a2)) (nm (setF σ2 3 (σL.2 2 (Int32.toNatClampNeg a2))) fun (σ4 : MS) => Option.bind (FL_about σL a2 1) fun (r5 : Int32) => nm (setF σ4 4 r5) fun (σ6 : MS) => Option.bind (FL_spanOf σL a2) fun (r7 : Int32) => nm (setF σ6 5 r7) fun (σ8 : MS) => Option.bind (FA_bodyFor σ8 a3) fun (r9 : Int32) => bd2 (FA_begin 12 σ8 r9 0) fun (r10 : Int32) (σ11 : MS) => some (r10, σ11))
set_option maxHeartbeats 4000000 in
set_option maxRecDepth 100000 in
theorem kA_answer (l : Launch) (D : va_G) (uA uL : Nat → Nat) (cI cB cR cM cJ : ClassId) (t : Nat → Nat) (σA : MS) (σL : MS) (a2 : Int32) (a3 : Int32) (r : Int32) (σA' : MS) (hf : FA_answer σA σL a2 a3 = some (r, σA')) : KZ l D (ctys cI cB cR cM cJ) t yX1_answer wsX1_answer 17 1349 [.ref (uA 0), .ref (uL 0), .int a2, .int a3] (xA uA cI cB cR cM cJ σA ++ xL uL cI cB cR cM cJ σL) (some (.int r)) (xA uA cI cB cR cM cJ σA' ++ xL uL cI cB cR cM cJ σL) := by
  refine KZ.ofI (own := RX1) (cc := cX1_answer) (maxL := 4) (by decide) rfl rfl (Nat.le_of_ble_eq_true rfl) ?_
  intro p e s m args below meth c R Q A ls S hRf hRl hK hA hP hD hS hl hZ hret
  obtain ⟨hx, hb, hml, hown, hts⟩ := id S
  have f15 := hts (.fieldLink RX1 15 "PenniesAway$Asker" "begun" "I") (by decide +kernel)
  have hinX1 : ∀ w ∈ wsX10, w ∈ wsX1_answer := fun w hw => List.mem_cons_of_mem _ (List.mem_append_left _ (List.mem_append_right _ hw))
  have f19 := hts (.fieldLink RX1 19 "PenniesAway$Asker" "number" "I") (by decide +kernel)
  have f31 := hts (.fieldLink RX1 31 "PenniesAway$Realm" "kinds" "[I") (by decide +kernel)
  have hinX5 : ∀ w ∈ wsX50, w ∈ wsX1_answer := fun w hw => List.mem_cons_of_mem _ (List.mem_append_right _ hw)
  have f22 := hts (.fieldLink RX1 22 "PenniesAway$Asker" "kindAsked" "I") (by decide +kernel)
  have f25 := hts (.fieldLink RX1 25 "PenniesAway$Asker" "age" "I") (by decide +kernel)
  have f28 := hts (.fieldLink RX1 28 "PenniesAway$Asker" "span" "I") (by decide +kernel)
  have hl : lv_has ls 4 [(0, .ref (uA 0)), (1, .ref (uL 0)), (2, .int a2), (3, .int a3)] := hl
  have hre : ∀ (x : Int32) (τA : MS) (pc : Nat) (ls : Array Slot) (H : Heap) (locs : List Loc), (some (x, τA) : Option (Int32 × MS)) = some (r, σA') → va_P D vwCl (xA uA cI cB cR cM cJ τA ++ xL uL cI cB cR cM cJ σL) H → va_D A (xA uA cI cB cR cM cJ τA ++ xL uL cI cB cR cM cJ σL) → va_S A s.heap H locs → decode cX1_answer pc = .ok (.ireturn, 1) → W p l e R s m args below meth c H locs 0 0 Q (F0 m pc ls [.int x]) := by intro x τA pc ls H locs he; cases he; exact hret pc ls H locs
  unfold FA_answer at hf
  refine lv_aload_n hx hb dX1_answer_0 rfl (lv_at hl 0 rfl) ?_
  refine lv_iconst (v := 0) hx hb dX1_answer_1 (by decide) ?_
  refine Ap_1 S hinX1 hK hP hD hS 0 rfl f15 dX1_answer_2 (fun H locs hP hD hS => ?_)
  obtain ⟨σ1, eσ1, hf⟩ := nm_some hf
  replace hP : va_P D vwCl (xA uA cI cB cR cM cJ σ1 ++ xL uL cI cB cR cM cJ σL) H := by rw [eσ1]; exact hP
  replace hD : va_D A (xA uA cI cB cR cM cJ σ1 ++ xL uL cI cB cR cM cJ σL) := by rw [eσ1]; exact hD
  refine lv_aload_n hx hb dX1_answer_5 rfl (lv_at hl 0 rfl) ?_
  refine lv_iload_n hx hb dX1_answer_6 rfl (lv_at hl 2 rfl) ?_
  refine Ap_2 S hinX1 hK hP hD hS 0 rfl f19 dX1_answer_7 (fun H locs hP hD hS => ?_)
  obtain ⟨σ2, eσ2, hf⟩ := nm_some hf
  replace hP : va_P D vwCl (xA uA cI cB cR cM cJ σ2 ++ xL uL cI cB cR cM cJ σL) H := by rw [eσ2]; exact hP
  replace hD : va_D A (xA uA cI cB cR cM cJ σ2 ++ xL uL cI cB cR cM cJ σL) := by rw [eσ2]; exact hD
  refine lv_aload_n hx hb dX1_answer_10 rfl (lv_at hl 0 rfl) ?_
  refine lv_aload_n hx hb dX1_answer_11 rfl (lv_at hl 1 rfl) ?_
  refine Lg_2 S hinX5 hK hP 2 rfl f31 dX1_answer_12 ?_
  refine lv_iload_n hx hb dX1_answer_15 rfl (lv_at hl 2 rfl) ?_
  obtain ⟨g3, hf⟩ := gd_some hf
  refine va_iald (f := σL.2 2) (n := 12) (cA := cI) hx hb hK hP 5 0 rfl rfl g3 dX1_answer_16 ?_
  refine Ap_3 S hinX1 hK hP hD hS 0 rfl f22 dX1_answer_17 (fun H locs hP hD hS => ?_)
  obtain ⟨σ4, eσ4, hf⟩ := nm_some hf
  replace hP : va_P D vwCl (xA uA cI cB cR cM cJ σ4 ++ xL uL cI cB cR cM cJ σL) H := by rw [eσ4]; exact hP
  replace hD : va_D A (xA uA cI cB cR cM cJ σ4 ++ xL uL cI cB cR cM cJ σL) := by rw [eσ4]; exact hD
  refine lv_aload_n hx hb dX1_answer_20 rfl (lv_at hl 0 rfl) ?_
  refine lv_aload_n hx hb dX1_answer_21 rfl (lv_at hl 1 rfl) ?_
  refine lv_iload_n hx hb dX1_answer_22 rfl (lv_at hl 2 rfl) ?_
  refine lv_iconst (v := 1) hx hb dX1_answer_23 (by decide) ?_
  obtain ⟨r5, hr5, hf⟩ := bi_some hf
  refine kz_v (ci := 4) (q0 := 0) (n := 2) S hRf hRl hK hA hZ hP hD hS hl [2, 3, 4, 5, 6] [.int a2, .int 1] [.ref (uA 0)] (kL_about l D uL cI cB cR cM cJ t σL a2 1 r5 hr5) rfl rfl rfl gX1_answer_X5_about rfl (by decide +kernel) rfl ⟨by decide, by decide⟩ rfl rfl rfl rfl (Nat.le_of_ble_eq_true rfl) dX1_answer_24 (fun H locs hP hD hS => ?_)
  replace hP : va_P D vwCl (xA uA cI cB cR cM cJ σ4 ++ xL uL cI cB cR cM cJ σL) H := hP
  replace hD : va_D A (xA uA cI cB cR cM cJ σ4 ++ xL uL cI cB cR cM cJ σL) := hD
  refine W.eq (g2 := F0 m 27 ls [.int r5, .ref (uA 0)]) rfl ?_
  refine Ap_4 S hinX1 hK hP hD hS 0 rfl f25 dX1_answer_27 (fun H locs hP hD hS => ?_)
  obtain ⟨σ6, eσ6, hf⟩ := nm_some hf
  replace hP : va_P D vwCl (xA uA cI cB cR cM cJ σ6 ++ xL uL cI cB cR cM cJ σL) H := by rw [eσ6]; exact hP
  replace hD : va_D A (xA uA cI cB cR cM cJ σ6 ++ xL uL cI cB cR cM cJ σL) := by rw [eσ6]; exact hD
  refine lv_aload_n hx hb dX1_answer_30 rfl (lv_at hl 0 rfl) ?_
  refine lv_aload_n hx hb dX1_answer_31 rfl (lv_at hl 1 rfl) ?_
  refine lv_iload_n hx hb dX1_answer_32 rfl (lv_at hl 2 rfl) ?_
  obtain ⟨r7, hr7, hf⟩ := bi_some hf
  refine kz_v (ci := 4) (q0 := 0) (n := 1) S hRf hRl hK hA hZ hP hD hS hl [2, 3, 4, 5, 6] [.int a2] [.ref (uA 0)] (kL_spanOf l D uL cI cB cR cM cJ t σL a2 r7 hr7) rfl rfl rfl gX1_answer_X5_spanOf rfl (by decide +kernel) rfl ⟨by decide, by decide⟩ rfl rfl rfl rfl (Nat.le_of_ble_eq_true rfl) dX1_answer_33 (fun H locs hP hD hS => ?_)
  replace hP : va_P D vwCl (xA uA cI cB cR cM cJ σ6 ++ xL uL cI cB cR cM cJ σL) H := hP
  replace hD : va_D A (xA uA cI cB cR cM cJ σ6 ++ xL uL cI cB cR cM cJ σL) := hD
  refine W.eq (g2 := F0 m 36 ls [.int r7, .ref (uA 0)]) rfl ?_
  refine Ap_5 S hinX1 hK hP hD hS 0 rfl f28 dX1_answer_36 (fun H locs hP hD hS => ?_)
  obtain ⟨σ8, eσ8, hf⟩ := nm_some hf
  replace hP : va_P D vwCl (xA uA cI cB cR cM cJ σ8 ++ xL uL cI cB cR cM cJ σL) H := by rw [eσ8]; exact hP
  replace hD : va_D A (xA uA cI cB cR cM cJ σ8 ++ xL uL cI cB cR cM cJ σL) := by rw [eσ8]; exact hD
  refine lv_aload_n hx hb dX1_answer_39 rfl (lv_at hl 0 rfl) ?_
  refine lv_aload_n hx hb dX1_answer_40 rfl (lv_at hl 0 rfl) ?_
  refine lv_iload_n hx hb dX1_answer_41 rfl (lv_at hl 3 rfl) ?_
  obtain ⟨r9, hr9, hf⟩ := bi_some hf
  refine kz_v (ci := 1) (q0 := 0) (n := 1) S hRf hRl hK hA hZ hP hD hS hl [0, 1] [.int a3] [.ref (uA 0)] (kA_bodyFor l D uA cI cB cR cM cJ t σ8 a3 r9 hr9) rfl rfl rfl gX1_answer_X1_bodyFor rfl (by decide +kernel) rfl ⟨by decide, by decide⟩ rfl rfl rfl rfl (Nat.le_of_ble_eq_true rfl) dX1_answer_42 (fun H locs hP hD hS => ?_)
  replace hP : va_P D vwCl (xA uA cI cB cR cM cJ σ8 ++ xL uL cI cB cR cM cJ σL) H := hP
  replace hD : va_D A (xA uA cI cB cR cM cJ σ8 ++ xL uL cI cB cR cM cJ σL) := hD
  refine W.eq (g2 := F0 m 45 ls [.int r9, .ref (uA 0)]) rfl ?_
  refine lv_iconst (v := 0) hx hb dX1_answer_45 (by decide) ?_
  obtain ⟨r10, σ11, hr10, hf⟩ := bd2_some hf
  refine kz_v (ci := 1) (q0 := 0) (n := 2) S hRf hRl hK hA hZ hP hD hS hl [0, 1] [.int r9, .int 0] [] (kA_begin l D uA cI cB cR cM cJ t 12 σ8 r9 0 r10 σ11 hr10) rfl rfl rfl gX1_answer_X1_begin rfl (by decide +kernel) rfl ⟨by decide, by decide⟩ rfl rfl rfl rfl (Nat.le_of_ble_eq_true rfl) dX1_answer_46 (fun H locs hP hD hS => ?_)
  replace hP : va_P D vwCl (xA uA cI cB cR cM cJ σ11 ++ xL uL cI cB cR cM cJ σL) H := hP
  replace hD : va_D A (xA uA cI cB cR cM cJ σ11 ++ xL uL cI cB cR cM cJ σL) := hD
  refine W.eq (g2 := F0 m 49 ls [.int r10]) rfl ?_
  exact hre _ _ _ _ _ _ hf hP hD hS dX1_answer_49
