/-! the words of the class (String constants): length, charAt; a call on one of them -/
section KZN
variable {l : Launch} {D : va_G} {tys : List (ClassId × FieldType)} {t : Nat → Nat} {y : MethodName} {ws ws' : List Cond} {fr lo maxL : Nat} {cc : ByteArray} {av : List Value} {w0 w1 : va_W} {own : String} {ty : FieldType}
theorem KZ.ofN {v : Int32} (hy : plainName y.cls = true) (ho : y.cls = own) (hw : ws = Cond.code y cc maxL (some ty) :: ws') (hle : (lg_sl av).length ≤ maxL)
    (body : ∀ (p : Program) (e : Env) (s : State) (m : MethodId) (args : Array Value) (below : List Frame) (meth : Method) (c : Code) (R : Room) (Q : State → Prop) (A : Nat → Prop) (ls : Array Slot), CallFix p m c cc maxL s args ws own → R.frames = fr → R.locals = lo → va_K D vwCl tys s → (∀ q, s.heap.size ≤ q → A q) → va_P D vwCl w0 s.heap → va_D A w0 → va_S A s.heap s.heap [] → lv_has ls maxL (lv_args 0 av) → ZZ t A s →
      (∀ (pc : Nat) (ls : Array Slot) (H : Heap) (locs : List Loc), va_P D vwCl w1 H → va_D A w1 → va_S A s.heap H locs → decode cc pc = .ok (.ireturn, 1) → narrow ty (.int v) = .int v → W p l e R s m args below meth c H locs 0 0 Q (F0 m pc ls [.int v])) →
      W p l e R s m args below meth c s.heap [] 0 0 Q (F0 m 0 ls [])) : KZ l D tys t y ws fr lo av w0 (some (.int v)) w1 := by
  intro sz
  refine Met.ofW (cc := cc) (maxL := maxL) (ret := some ty) hy hw ?_
  intro p e s m args below meth c s₁ B hml hv
  obtain ⟨rfl, hsz, hP, hK, hD0, hZ⟩ := hv
  have hts := atoms_spec (ws := ws) B.pre
  have hown : s.vm.findClass own = some m.cls := by rw [← ho]; exact findClass_of_methodNamed B.named
  subst hsz
  have hr := B.returns
  have hlocks := B.notSynchronized
  rw [lg_entry_eq]
  exact body p e s m av.toArray below meth c _ _ (va_A w0 s.heap.size) _ ⟨B.exec, B.bytes, hml, hown, hts⟩ rfl rfl hK (fun q h => Or.inr h) hP hD0.self va_S.rf (lv_entry av hle) hZ (fun pc ls H locs hP1 hD1 hS1 hdg hn => W.zret B.exec B.bytes hr hn (fun t ht hW => ⟨rfl, ⟨by rw [ht]; exact hP1, va_K.moved hW.alike hK, hD1⟩, hS1.F ht⟩) hS1.2.2 hdg)
end KZN
section KZK
variable {p : Program} {l : Launch} {e : Env} {R : Room} {s : State} {m : MethodId} {args : Array Value} {below : List Frame} {meth : Method} {c : Code} {H : Heap} {locs : List Loc} {Q : State → Prop}
variable {cc : ByteArray} {pc : Nat} {ls : Array Slot} {rest st : List Value} {D : va_G} {A : Nat → Prop} {tys : List (ClassId × FieldType)} {t : Nat → Nat} {Ts ws ws' : List Cond} {own C : String} {index maxL nL fr lo Rf Rl : Nat} {y : MethodName} {bytes : ByteArray} {ret : Option FieldType} {v : Option Value} {wm : va_W} {lv : List (Nat × Value)}
/-- a call on a word -/
theorem kz_k {i n : Nat} (hi : i < 9) (S : CallFix p m c cc nL s args Ts own) (hRf : R.frames = Rf) (hRl : R.locals = Rl) (hK : va_K D vwCl tys s) (hA : ∀ q, s.heap.size ≤ q → A q) (hZ : ZZ t A s) (hP : va_P D vwCl wm H) (hD : va_D A wm) (hS : va_S A s.heap H locs) (hl : lv_has ls nL lv) (As rest : List Value)
    (hM : KZ l D tys t y ws fr lo (.ref (t (10 + i)) :: As) [] v []) (hT : GoodIn Ts (wsV own index RJ0 y ws)) (hw : ws = Cond.code y bytes maxL ret :: ws')
    (hd : y.cls = RJ0 ∧ y.cls ≠ "java/lang/invoke/MethodHandle" ∧ y.cls ≠ "java/lang/invoke/VarHandle" ∧ (parseMethodDescriptor y.desc).map (fun d => d.parameters.length) = some n) (hn : As.length = n) (hR : fr + 1 ≤ Rf ∧ 8 + (maxL + 11) + lo ≤ Rl)
    (hstack : st = As.reverse ++ .ref (t (10 + i)) :: rest) (hst : (rest.map fun v => v.category).sum ≤ 8) (hdg : decode cc pc = .ok (.invokevirtual index, 3))
    (kk : ∀ (H1 : Heap) (locs1 : List Loc), va_P D vwCl wm H1 → va_D A wm → va_S A s.heap H1 locs1 → W p l e R s m args below meth c H1 locs1 0 0 Q (F0 m (pc + 3) ls (v.toList ++ rest))) : W p l e R s m args below meth c H locs 0 0 Q (F0 m pc ls st) := by
  have hC : ([] : List Nat).map (fun i => wm[i]?) = ([] : va_W).map some := rfl
  have hF := va_free hD hS hA [] hC
  refine kz_go (wc := []) (w1 := []) (va_runV (As := As) (rest := rest) S (hM H.size) (cwV n S.2.2.2.2 hT hw rfl rfl hd ⟨by rw [hRf]; exact hR.1, by rw [hRl]; exact hR.2⟩) ⟨fun a U g mk q => ?_, ?_, fun U hU hW => ⟨rfl, by rw [hU], fun k q h => by simp at h, va_K.moved hW.alike hK, ⟨fun i j p q h => by simp at h, fun k q h => by simp at h⟩, hZ.go hS hU hW hF⟩⟩ rfl hn hl.1 hstack (lv_room hst) hdg ⟨Nat.zero_le _, Nat.zero_le _⟩) hP hD hS hF [] hC rfl kk
  · obtain ⟨q0, q1, qP, qK, qD, qZ⟩ := q
    exact ⟨q0, q1, qP, va_K.moved (u := U) (U := U.calling g mk a) (Vm.Alike.refl U.vm) qK, qD, qZ.blind rfl rfl⟩
  · have h9 := vk_recv (i := i) hZ.2.2.1.2.2 hi hS
    exact h9
end KZK
section KSTR
variable (l : Launch) (D : va_G) (cI cB cR cM cJ : ClassId) (t : Nat → Nat)
theorem zlen_lt : ∀ i, i < 9 → zlen.getD i 0 < 2 ^ 31 := by decide
set_option maxHeartbeats 4000000 in
set_option maxRecDepth 100000 in
theorem kJ_coder {i : Nat} (hi : i < 9) : KZ l D (ctys cI cB cR cM cJ) t yJ0_coder_7d493 wsJ0_coder_7d493 0 0 [.ref (t (10 + i))] [] (some (.int 0)) [] := by
  refine KZ.ofN (ty := .byte) (own := RJ0) (cc := cJ0_coder_7d493) (maxL := 1) (by decide) rfl rfl (Nat.le_of_ble_eq_true rfl) ?_
  intro p e s m args below meth c R Q A ls S hRf hRl hK hA hP hD hS hl hZ hret
  obtain ⟨hx, hb, hml, hown, hts⟩ := id S
  have f38 := hts (.fieldLink RJ0 38 "java/lang/String" "COMPACT_STRINGS" "Z") (by decide +kernel)
  have f15 := hts (.fieldLink RJ0 15 "java/lang/String" "coder" "B") (by decide +kernel)
  have hl : lv_has ls 1 [(0, .ref (t (10 + i)))] := hl
  refine va_gets hx hb hZ.2.2.1.1 hS hown f38 (fun _ h9 => h9) dJ0_coder_7d493_0 ?_
  refine lv_if_eq (tgt := 13) hx hb dJ0_coder_7d493_3 (by decide) (fun c1 => ?_) (fun c1 => ?_)
  · exact absurd c1 (by decide)
  · refine lv_aload_n hx hb dJ0_coder_7d493_6 rfl (lv_at hl 0 rfl) ?_
    refine vk_getf hx hb (hZ.2.2.1.2.2.1 i hi).2.1 hS hown f15 (fun _ h9 => h9) dJ0_coder_7d493_7 ?_
    refine lv_goto (tgt := 14) hx hb dJ0_coder_7d493_10 (by decide) ?_
    exact hret _ _ _ _ hP hD hS dJ0_coder_7d493_14 rfl
set_option maxHeartbeats 4000000 in
set_option maxRecDepth 100000 in
theorem kJ_isLatin1 {i : Nat} (hi : i < 9) : KZ l D (ctys cI cB cR cM cJ) t yJ0_isLatin1_aae02 wsJ0_isLatin1_aae02 0 0 [.ref (t (10 + i))] [] (some (.int 1)) [] := by
  refine KZ.ofZ (own := RJ0) (cc := cJ0_isLatin1_aae02) (maxL := 1) (by decide) rfl rfl (Nat.le_of_ble_eq_true rfl) ?_
  intro p e s m args below meth c R Q A ls S hRf hRl hK hA hP hD hS hl hZ hret
  obtain ⟨hx, hb, hml, hown, hts⟩ := id S
  have f38 := hts (.fieldLink RJ0 38 "java/lang/String" "COMPACT_STRINGS" "Z") (by decide +kernel)
  have f15 := hts (.fieldLink RJ0 15 "java/lang/String" "coder" "B") (by decide +kernel)
  have hl : lv_has ls 1 [(0, .ref (t (10 + i)))] := hl
  refine va_gets hx hb hZ.2.2.1.1 hS hown f38 (fun _ h9 => h9) dJ0_isLatin1_aae02_0 ?_
  refine lv_if_eq (tgt := 17) hx hb dJ0_isLatin1_aae02_3 (by decide) (fun c1 => ?_) (fun c1 => ?_)
  · exact absurd c1 (by decide)
  · refine lv_aload_n hx hb dJ0_isLatin1_aae02_6 rfl (lv_at hl 0 rfl) ?_
    refine vk_getf hx hb (hZ.2.2.1.2.2.1 i hi).2.1 hS hown f15 (fun _ h9 => h9) dJ0_isLatin1_aae02_7 ?_
    refine lv_if_ne (tgt := 17) hx hb dJ0_isLatin1_aae02_10 (by decide) (fun c2 => ?_) (fun c2 => ?_)
    · exact absurd rfl c2
    · refine lv_iconst (v := 1) hx hb dJ0_isLatin1_aae02_13 (by decide) ?_
      refine lv_goto (tgt := 18) hx hb dJ0_isLatin1_aae02_14 (by decide) ?_
      exact hret _ _ _ _ hP hD hS dJ0_isLatin1_aae02_18 rfl
set_option maxHeartbeats 4000000 in
set_option maxRecDepth 100000 in
theorem kJ_length {i : Nat} (hi : i < 9) : KZ l D (ctys cI cB cR cM cJ) t yJ0_length_8abf5 wsJ0_length_8abf5 1 20 [.ref (t (10 + i))] [] (some (.int (nI (zlen.getD i 0)))) [] := by
  refine KZ.ofI (own := RJ0) (cc := cJ0_length_8abf5) (maxL := 1) (by decide) rfl rfl (Nat.le_of_ble_eq_true rfl) ?_
  intro p e s m args below meth c R Q A ls S hRf hRl hK hA hP hD hS hl hZ hret
  obtain ⟨hx, hb, hml, hown, hts⟩ := id S
  have f9 := hts (.fieldLink RJ0 9 "java/lang/String" "value" "[B") (by decide +kernel)
  have hl : lv_has ls 1 [(0, .ref (t (10 + i)))] := hl
  refine lv_aload_n hx hb dJ0_length_8abf5_0 rfl (lv_at hl 0 rfl) ?_
  refine vk_getf hx hb (hZ.2.2.1.2.2.1 i hi).2.2.1 hS hown f9 (fun _ h9 => h9) dJ0_length_8abf5_1 ?_
  refine va_tlen (v := nI (zlen.getD i 0)) hx hb (hZ.2.2.1.2.2.1 i hi).2.2.2 hS rfl dJ0_length_8abf5_4 ?_
  refine lv_aload_n hx hb dJ0_length_8abf5_5 rfl (lv_at hl 0 rfl) ?_
  refine kz_k (n := 0) hi S hRf hRl hK hA hZ hP hD hS hl [] [.int (nI (zlen.getD i 0))] (kJ_coder l D cI cB cR cM cJ t hi) gJ0_length_8abf5_J0_coder_7d493 rfl (by decide +kernel) rfl ⟨by decide, by decide⟩ rfl (Nat.le_of_ble_eq_true rfl) dJ0_length_8abf5_6 (fun H locs hP hD hS => ?_)
  refine W.eq (g2 := F0 m 9 ls [.int 0, .int (nI (zlen.getD i 0))]) rfl ?_
  refine lv_ishr hx hb dJ0_length_8abf5_9 ?_
  rw [sc_shr0 (zlen_lt i hi)]
  exact hret _ _ _ _ hP hD hS dJ0_length_8abf5_10
set_option maxHeartbeats 4000000 in
set_option maxRecDepth 100000 in
theorem kJ_check3 (a b : Int32) (v3 : Value) (h3 : v3 = .null ∨ ∃ q, v3 = .ref q) (h0 : ¬ a < 0) (h1 : a < b) : KZ l D (ctys cI cB cR cM cJ) t yJ3_checkIndex_8e157 wsJ3_checkIndex_8e157 0 0 [.int a, .int b, v3] [] (some (.int a)) [] := by
  rcases h3 with rfl | ⟨q, rfl⟩
  · refine KZ.ofI (own := RJ3) (cc := cJ3_checkIndex_8e157) (maxL := 3) (by decide) rfl rfl (Nat.le_of_ble_eq_true rfl) ?_
    intro p e s m args below meth c R Q A ls S hRf hRl hK hA hP hD hS hl hZ hret
    obtain ⟨hx, hb, hml, hown, hts⟩ := id S
    have hl : lv_has ls 3 [(0, .int a), (1, .int b), (2, .null)] := hl
    refine lv_iload_n hx hb dJ3_checkIndex_8e157_0 rfl (lv_at hl 0 rfl) ?_
    refine lv_if_lt (tgt := 9) hx hb dJ3_checkIndex_8e157_1 (by decide) (fun c => absurd c h0) (fun c => ?_)
    refine lv_iload_n hx hb dJ3_checkIndex_8e157_4 rfl (lv_at hl 0 rfl) ?_
    refine lv_iload_n hx hb dJ3_checkIndex_8e157_5 rfl (lv_at hl 1 rfl) ?_
    refine lv_icmp_lt (tgt := 16) hx hb dJ3_checkIndex_8e157_6 (by decide) (fun c => ?_) (fun c => absurd h1 c)
    refine lv_iload_n hx hb dJ3_checkIndex_8e157_16 rfl (lv_at hl 0 rfl) ?_
    exact hret _ _ _ _ hP hD hS dJ3_checkIndex_8e157_17
  · refine KZ.ofI (own := RJ3) (cc := cJ3_checkIndex_8e157) (maxL := 3) (by decide) rfl rfl (Nat.le_of_ble_eq_true rfl) ?_
    intro p e s m args below meth c R Q A ls S hRf hRl hK hA hP hD hS hl hZ hret
    obtain ⟨hx, hb, hml, hown, hts⟩ := id S
    have hl : lv_has ls 3 [(0, .int a), (1, .int b), (2, .ref q)] := hl
    refine lv_iload_n hx hb dJ3_checkIndex_8e157_0 rfl (lv_at hl 0 rfl) ?_
    refine lv_if_lt (tgt := 9) hx hb dJ3_checkIndex_8e157_1 (by decide) (fun c => absurd c h0) (fun c => ?_)
    refine lv_iload_n hx hb dJ3_checkIndex_8e157_4 rfl (lv_at hl 0 rfl) ?_
    refine lv_iload_n hx hb dJ3_checkIndex_8e157_5 rfl (lv_at hl 1 rfl) ?_
    refine lv_icmp_lt (tgt := 16) hx hb dJ3_checkIndex_8e157_6 (by decide) (fun c => ?_) (fun c => absurd h1 c)
    refine lv_iload_n hx hb dJ3_checkIndex_8e157_16 rfl (lv_at hl 0 rfl) ?_
    exact hret _ _ _ _ hP hD hS dJ3_checkIndex_8e157_17
set_option maxHeartbeats 4000000 in
set_option maxRecDepth 100000 in
theorem kJ_check0 (a b : Int32) (h0 : ¬ a < 0) (h1 : a < b) : KZ l D (ctys cI cB cR cM cJ) t yJ0_checkIndex_df160 wsJ0_checkIndex_df160 1 22 [.int a, .int b] [] none [] := by
  refine KZ.ofV (own := RJ0) (cc := cJ0_checkIndex_df160) (maxL := 2) (by decide) rfl rfl (Nat.le_of_ble_eq_true rfl) ?_
  intro p e s m args below meth c R Q A ls S hRf hRl hK hA hP hD hS hl hZ hret
  obtain ⟨hx, hb, hml, hown, hts⟩ := id S
  have f1 := hts (.fieldLink RJ0 1053 "jdk/internal/util/Preconditions" "SIOOBE_FORMATTER" "Ljava/util/function/BiFunction;") (by decide +kernel)
  have hl : lv_has ls 2 [(0, .int a), (1, .int b)] := hl
  have hv : ∃ v3 : Value, (v3 = .null ∨ ∃ q, v3 = .ref q) ∧ va_Z "jdk/internal/util/Preconditions" "SIOOBE_FORMATTER" "Ljava/util/function/BiFunction;" v3 A s s.heap := by
    rcases hZ.2.2.1.2.1 with h | ⟨q, h⟩
    · exact ⟨_, Or.inl rfl, h⟩
    · exact ⟨_, Or.inr ⟨q, rfl⟩, h⟩
  obtain ⟨v3, h3, hz3⟩ := hv
  refine lv_iload_n hx hb dJ0_checkIndex_df160_0 rfl (lv_at hl 0 rfl) ?_
  refine lv_iload_n hx hb dJ0_checkIndex_df160_1 rfl (lv_at hl 1 rfl) ?_
  refine va_gets hx hb hz3 hS hown f1 (fun _ h9 => h9) dJ0_checkIndex_df160_2 ?_
  refine kz_s (n := 3) S hRf hRl hK hA hZ hP hD hS hl [] [.int a, .int b, v3] [] (kJ_check3 l D cI cB cR cM cJ t a b v3 h3 h0 h1) rfl rfl rfl gJ0_checkIndex_df160_J3_checkIndex_8e157 rfl (by decide +kernel) rfl ⟨by decide, by decide⟩ rfl (Nat.le_of_ble_eq_true rfl) dJ0_checkIndex_df160_5 (fun H locs hP hD hS => ?_)
  refine W.eq (g2 := F0 m 8 ls [.int a]) rfl ?_
  refine lv_pop hx hb dJ0_checkIndex_df160_8 rfl ?_
  exact hret _ _ _ _ hP hD hS dJ0_checkIndex_df160_9
/-- the char at k of word i -/
def zch (i : Nat) (k : Int32) : Int32 := ((zbyt.getD i []).getD k.toNatClampNeg 0) &&& 255
set_option maxHeartbeats 4000000 in
set_option maxRecDepth 100000 in
theorem kJ_charAt1 {i : Nat} (hi : i < 9) (k : Int32) (h0 : ¬ k < 0) (h1 : k < nI (zlen.getD i 0)) : KZ l D (ctys cI cB cR cM cJ) t yJ1_charAt_3b067 wsJ1_charAt_3b067 2 43 [.ref (t (20 + i)), .int k] [] (some (.int (zch i k))) [] := by
  refine KZ.ofN (ty := .char) (own := RJ1) (cc := cJ1_charAt_3b067) (maxL := 2) (by decide) rfl rfl (Nat.le_of_ble_eq_true rfl) ?_
  intro p e s m args below meth c R Q A ls S hRf hRl hK hA hP hD hS hl hZ hret
  obtain ⟨hx, hb, hml, hown, hts⟩ := id S
  have hl : lv_has ls 2 [(0, .ref (t (20 + i))), (1, .int k)] := hl
  have hin : vp_in k (zlen.getD i 0) := by
    obtain ⟨j, hj, rfl⟩ := nI_of h0
    have := (nI_ltI hj (zlen_lt i hi)).mp h1
    exact vp_in_nI this (zlen_lt i hi)
  refine lv_iload_n hx hb dJ1_charAt_3b067_0 rfl (lv_at hl 1 rfl) ?_
  refine lv_aload_n hx hb dJ1_charAt_3b067_1 rfl (lv_at hl 0 rfl) ?_
  refine va_tlen (v := nI (zlen.getD i 0)) hx hb (hZ.2.2.1.2.2.1 i hi).2.2.2 hS rfl dJ1_charAt_3b067_2 ?_
  refine kz_s (n := 2) S hRf hRl hK hA hZ hP hD hS hl [] [.int k, .int (nI (zlen.getD i 0))] [] (kJ_check0 l D cI cB cR cM cJ t k _ h0 h1) rfl rfl rfl gJ1_charAt_3b067_J0_checkIndex_df160 rfl (by decide +kernel) rfl ⟨by decide, by decide⟩ rfl (Nat.le_of_ble_eq_true rfl) dJ1_charAt_3b067_3 (fun H locs hP hD hS => ?_)
  refine W.eq (g2 := F0 m 6 ls []) rfl ?_
  refine lv_aload_n hx hb dJ1_charAt_3b067_6 rfl (lv_at hl 0 rfl) ?_
  refine lv_iload_n hx hb dJ1_charAt_3b067_7 rfl (lv_at hl 1 rfl) ?_
  refine va_tb hx hb (hZ.2.2.1.2.2.1 i hi).2.2.2 hS hin rfl dJ1_charAt_3b067_8 ?_
  refine lv_sipush (v := 255) hx hb dJ1_charAt_3b067_9 (by decide) ?_
  refine lv_iand hx hb dJ1_charAt_3b067_12 ?_
  refine lv_i2c (v := zch i k) hx hb dJ1_charAt_3b067_13 (sc_c2 _) ?_
  exact hret _ _ _ _ hP hD hS dJ1_charAt_3b067_14 (sc_nar _)
set_option maxHeartbeats 4000000 in
set_option maxRecDepth 100000 in
theorem kJ_charAt {i : Nat} (hi : i < 9) (k : Int32) (h0 : ¬ k < 0) (h1 : k < nI (zlen.getD i 0)) : KZ l D (ctys cI cB cR cM cJ) t yJ0_charAt_5068e wsJ0_charAt_5068e 3 64 [.ref (t (10 + i)), .int k] [] (some (.int (zch i k))) [] := by
  refine KZ.ofN (ty := .char) (own := RJ0) (cc := cJ0_charAt_5068e) (maxL := 2) (by decide) rfl rfl (Nat.le_of_ble_eq_true rfl) ?_
  intro p e s m args below meth c R Q A ls S hRf hRl hK hA hP hD hS hl hZ hret
  obtain ⟨hx, hb, hml, hown, hts⟩ := id S
  have f9 := hts (.fieldLink RJ0 9 "java/lang/String" "value" "[B") (by decide +kernel)
  have hl : lv_has ls 2 [(0, .ref (t (10 + i))), (1, .int k)] := hl
  refine lv_aload_n hx hb dJ0_charAt_5068e_0 rfl (lv_at hl 0 rfl) ?_
  refine kz_k (n := 0) hi S hRf hRl hK hA hZ hP hD hS hl [] [] (kJ_isLatin1 l D cI cB cR cM cJ t hi) gJ0_charAt_5068e_J0_isLatin1_aae02 rfl (by decide +kernel) rfl ⟨by decide, by decide⟩ rfl (Nat.le_of_ble_eq_true rfl) dJ0_charAt_5068e_1 (fun H locs hP hD hS => ?_)
  refine W.eq (g2 := F0 m 4 ls [.int 1]) rfl ?_
  refine lv_if_eq (tgt := 16) hx hb dJ0_charAt_5068e_4 (by decide) (fun c1 => absurd c1 (by decide)) (fun c1 => ?_)
  refine lv_aload_n hx hb dJ0_charAt_5068e_7 rfl (lv_at hl 0 rfl) ?_
  refine vk_getf hx hb (hZ.2.2.1.2.2.1 i hi).2.2.1 hS hown f9 (fun _ h9 => h9) dJ0_charAt_5068e_8 ?_
  refine lv_iload_n hx hb dJ0_charAt_5068e_11 rfl (lv_at hl 1 rfl) ?_
  refine kz_s (n := 2) S hRf hRl hK hA hZ hP hD hS hl [] [.ref (t (20 + i)), .int k] [] (kJ_charAt1 l D cI cB cR cM cJ t hi k h0 h1) rfl rfl rfl gJ0_charAt_5068e_J1_charAt_3b067 rfl (by decide +kernel) rfl ⟨by decide, by decide⟩ rfl (Nat.le_of_ble_eq_true rfl) dJ0_charAt_5068e_12 (fun H locs hP hD hS => ?_)
  refine W.eq (g2 := F0 m 15 ls [.int (zch i k)]) rfl ?_
  exact hret _ _ _ _ hP hD hS dJ0_charAt_5068e_15 (sc_nar _)
end KSTR
def FJ_length (i : Nat) : Option Int32 := gd (i < 9) (some (nI (zlen.getD i 0)))
def FJ_charAt (i : Nat) (k : Int32) : Option Int32 := gd (i < 9 ∧ ¬ k < 0 ∧ k < nI (zlen.getD i 0)) (some (zch i k))
