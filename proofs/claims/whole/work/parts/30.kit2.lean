/-! a callee's cells among the caller's, by their places; the class's static facts; contracts with them -/
def kset (ws : va_W) : List Nat → va_W → va_W
  | i :: is, c :: cs => kset (ws.set i c) is cs
  | _, _ => ws
theorem kset_get : ∀ (is : List Nat) (w1 ws : va_W), is.length = w1.length → ∀ (k : Nat) (q : Nat × va_E), (kset ws is w1)[k]? = some q → (∃ j : Nat, is[j]? = some k ∧ w1[j]? = some q) ∨ (k ∉ is ∧ ws[k]? = some q) := by
  intro is
  induction is with
  | nil =>
    intro w1 ws hl k q h
    cases w1 with
    | nil => exact Or.inr ⟨List.not_mem_nil, h⟩
    | cons c cs => simp at hl
  | cons i is ih =>
    intro w1 ws hl k q h
    cases w1 with
    | nil => simp at hl
    | cons c cs =>
      have hl' : is.length = cs.length := by simpa using hl
      rcases ih cs (ws.set i c) hl' k q h with ⟨j, h1, h2⟩ | ⟨h1, h2⟩
      · exact Or.inl ⟨j + 1, by simpa using h1, by simpa using h2⟩
      · by_cases hik : i = k
        · subst hik
          have hlt : i < ws.length := by
            have := (List.getElem?_eq_some_iff.mp h2).1
            simpa using this
          rw [List.getElem?_set_self hlt] at h2
          exact Or.inl ⟨0, by simp, by simpa using h2⟩
        · rw [List.getElem?_set_ne hik] at h2
          exact Or.inr ⟨fun hm => by rcases List.mem_cons.mp hm with e | e; exact hik e.symm; exact h1 e, h2⟩
theorem set_adr {ws : va_W} {i : Nat} {c : Nat × va_E} (h : (ws[i]?).map (·.1) = some c.1) : (ws.set i c).map (·.1) = ws.map (·.1) := by
  rw [List.map_set]
  apply List.ext_getElem?
  intro k
  by_cases hk : i = k
  · subst hk
    have hlt : i < (ws.map (·.1)).length := by
      cases hq : ws[i]? with
      | none => rw [hq] at h; cases h
      | some q => simpa using (List.getElem?_eq_some_iff.mp hq).1
    rw [List.getElem?_set_self hlt, List.getElem?_map, h]
  · rw [List.getElem?_set_ne hk]
theorem kset_adr : ∀ (is : List Nat) (w1 ws : va_W), is.map (fun i => (ws[i]?).map (·.1)) = w1.map (fun c => some c.1) → (kset ws is w1).map (·.1) = ws.map (·.1) := by
  intro is
  induction is with
  | nil => intro w1 ws _; cases w1 <;> rfl
  | cons i is ih =>
    intro w1 ws h
    cases w1 with
    | nil => rfl
    | cons c cs =>
      simp only [List.map_cons, List.cons.injEq] at h
      have h1 := set_adr h.1
      show (kset (ws.set i c) is cs).map (·.1) = ws.map (·.1)
      rw [ih cs (ws.set i c) ?_, h1]
      rw [← h.2]
      apply List.map_congr_left
      intro j _
      rw [← List.getElem?_map, ← List.getElem?_map, h1]
theorem va_D.adr {A : Nat → Prop} {ws ws' : va_W} (hD : va_D A ws) (h : ws'.map (·.1) = ws.map (·.1)) : va_D A ws' := by
  have at' : ∀ (k : Nat) (q : Nat × va_E), ws'[k]? = some q → ∃ q0, ws[k]? = some q0 ∧ q0.1 = q.1 := by
    intro k q hq
    have h1 : (ws'.map (·.1))[k]? = some q.1 := by rw [List.getElem?_map, hq]; rfl
    rw [h, List.getElem?_map] at h1
    cases hw : ws[k]? with
    | none => rw [hw] at h1; cases h1
    | some q0 => rw [hw] at h1; exact ⟨q0, rfl, Option.some.inj h1⟩
  refine ⟨fun i j p q hp hq he => ?_, fun k q hq => ?_⟩
  · obtain ⟨p0, h1, e1⟩ := at' i p hp
    obtain ⟨q0, h2, e2⟩ := at' j q hq
    exact hD.1 i j p0 q0 h1 h2 (by rw [e1, e2, he])
  · obtain ⟨q0, h1, e1⟩ := at' k q hq
    rw [← e1]; exact hD.2 k q0 h1
theorem kset_PD {A0 : Nat → Prop} {D : va_G} {cl : List vw_C} {ws wc w1 : va_W} {H H1 : Heap} (hP : va_P D cl ws H) (hD : va_D A0 ws) (isC : List Nat) (hC : isC.map (fun i => ws[i]?) = wc.map some) (hadr : wc.map (·.1) = w1.map (·.1)) (hk : ∀ q : Nat, q < H.size → ¬ va_A wc H.size q → H1[q]? = H[q]?) (hP1 : va_P D cl w1 H1) : va_P D cl (kset ws isC w1) H1 ∧ va_D A0 (kset ws isC w1) := by
  have hlen : isC.length = w1.length := by
    have h1 := congrArg List.length hC
    have h2 := congrArg List.length hadr
    simp at h1 h2
    omega
  refine ⟨fun k q hq => ?_, hD.adr (kset_adr isC w1 ws ?_)⟩
  · rcases kset_get isC w1 ws hlen k q hq with ⟨j, h1, h2⟩ | ⟨h1, h2⟩
    · exact hP1 j q h2
    · refine (hP k q h2).kept (hk q.1 (hP k q h2).lt ?_)
      rintro (⟨j, e, hj⟩ | hge)
      · have h3 : (isC.map (fun i => ws[i]?))[j]? = some (some (q.1, e)) := by rw [hC, List.getElem?_map, hj]; rfl
        rw [List.getElem?_map] at h3
        cases hi : isC[j]? with
        | none => rw [hi] at h3; cases h3
        | some i =>
          rw [hi] at h3
          have h4 := hD.1 k i q (q.1, e) h2 (Option.some.inj h3) rfl
          subst h4
          exact h1 (List.mem_of_getElem? hi)
      · exact absurd (hP k q h2).lt (Nat.not_lt.mpr hge)
  · have h1 : isC.map (fun i => (ws[i]?).map (·.1)) = (isC.map (fun i => ws[i]?)).map (Option.map (·.1)) := by rw [List.map_map]; rfl
    rw [h1, hC, List.map_map]
    have h2 : w1.map (fun c => some c.1) = (w1.map (·.1)).map some := by rw [List.map_map]; rfl
    rw [h2, ← hadr, List.map_map]; rfl
abbrev ctys (cI cB cR cM cJ : ClassId) : List (ClassId × FieldType) := [(cI, .int), (cB, .byte), (cR, .object RX6), (cM, .object RX5), (cJ, .array .int)]
def zNEXT (j : Nat) : Int32 := ([-1, 0, 1, 1, 3, 0] : List Int32).getD j 0
def zSIZE (j : Nat) : Int32 := ([10, 11, 12, 0, 14, 13] : List Int32).getD j 0
def zMARK (j : Nat) : Int32 := ([20, 21, 0, 22, 24, 23] : List Int32).getD j 0
def zlen : List Nat := [3, 4, 6, 4, 4, 6, 6, 6, 3]
def zbyt : List (List Int32) := [[108, 97, 119], [114, 111, 97, 100], [104, 111, 108, 100, 101, 114], [99, 111, 105, 110], [103, 111, 108, 100], [115, 105, 108, 118, 101, 114], [99, 111, 112, 112, 101, 114], [102, 111, 114, 103, 101, 100], [111, 108, 100]]
/-- what holds of the class's statics, its links to nest mates, and its words, outside of A: t 0 .. t 2 are the static rows, t (10 + i) the word i, t (20 + i) its bytes -/
def ZZ (t : Nat → Nat) (A : Nat → Prop) (U : State) : Prop :=
  (va_Nw (.methodLinkNest RX1 50 yX8_outside RX8) U ∧ va_Nw (.methodLinkNest RX2 38 yX8_outside RX8) U ∧ va_Nw (.methodLinkNest RX3 9 yX8_outside RX8) U ∧ va_Nw (.methodLinkNest RX4 126 yX8_outside RX8) U) ∧
  (va_Z RX3 "NEXT" "[I" (.ref (t 0)) A U U.heap ∧ va_T .int (t 0) 6 (fun j => .int (zNEXT j)) A U U.heap ∧ va_Z RX1 "SIZE_BODIES" "[I" (.ref (t 1)) A U U.heap ∧ va_T .int (t 1) 6 (fun j => .int (zSIZE j)) A U U.heap ∧ va_Z RX1 "MARK_BODIES" "[I" (.ref (t 2)) A U U.heap ∧ va_T .int (t 2) 6 (fun j => .int (zMARK j)) A U U.heap) ∧
  (va_Z "java/lang/String" "COMPACT_STRINGS" "Z" (.int 1) A U U.heap ∧ va_Zq "jdk/internal/util/Preconditions" "SIOOBE_FORMATTER" "Ljava/util/function/BiFunction;" A U U.heap ∧ vk_S 9 zlen zbyt (fun i => t (10 + i)) (fun i => t (20 + i)) A U U.heap) ∧
  (vk_R RX4 61 "law" (t 10) U ∧ vk_R RX4 81 "road" (t 11) U ∧ vk_R RX4 93 "holder" (t 12) U ∧ vk_R RX4 99 "coin" (t 13) U ∧ vk_R RX4 114 "gold" (t 14) U ∧ vk_R RX4 118 "silver" (t 15) U ∧ vk_R RX4 120 "copper" (t 16) U ∧ vk_R RX4 122 "forged" (t 17) U ∧ vk_R RX4 124 "old" (t 18) U)
theorem ZZ.go {t : Nat → Nat} {A B : Nat → Prop} {s U : State} {H : Heap} {locs : List Loc} (h : ZZ t A s) (hS : va_S A s.heap H locs) (hU : U.heap = H) (hW : s.WarmedH U.vm) (hB : ∀ q, B q → A q) : ZZ t B U := by
  obtain ⟨⟨n1, n2, n3, n4⟩, ⟨z1, t1, z2, t2, z3, t3⟩, ⟨z4, z5, s1⟩, ⟨r1, r2, r3, r4, r5, r6, r7, r8, r9⟩⟩ := h
  subst hU
  have ha := hW.alike
  refine ⟨⟨n1.warmM hW, n2.warmM hW, n3.warmM hW, n4.warmM hW⟩, ⟨?_, ?_, ?_, ?_, ?_, ?_⟩, ⟨?_, ?_, ?_⟩, ⟨r1.warm hW, r2.warm hW, r3.warm hW, r4.warm hW, r5.warm hW, r6.warm hW, r7.warm hW, r8.warm hW, r9.warm hW⟩⟩
  · exact ((z1.kept hS.2.1).moved ha).narrow hB
  · exact ((t1.kept hS.2.1).moved ha).narrow hB
  · exact ((z2.kept hS.2.1).moved ha).narrow hB
  · exact ((t2.kept hS.2.1).moved ha).narrow hB
  · exact ((z3.kept hS.2.1).moved ha).narrow hB
  · exact ((t3.kept hS.2.1).moved ha).narrow hB
  · exact ((z4.kept hS.2.1).moved ha).narrow hB
  · exact ((z5.kept hS.2.1).moved ha).narrow hB
  · exact ((s1.kept hS.2.1).moved ha).narrow hB
theorem ZZ.blind {t : Nat → Nat} {A : Nat → Prop} {U V : State} (h : ZZ t A U) (hh : V.heap = U.heap) (hv : V.vm = U.vm) : ZZ t A V := by
  obtain ⟨⟨n1, n2, n3, n4⟩, ⟨z1, t1, z2, t2, z3, t3⟩, ⟨z4, z5, s1⟩, ⟨r1, r2, r3, r4, r5, r6, r7, r8, r9⟩⟩ := h
  have ha : U.vm.Alike V.vm := by rw [hv]; exact Vm.Alike.refl _
  unfold ZZ
  rw [hh]
  exact ⟨⟨n1.same rfl hv.symm, n2.same rfl hv.symm, n3.same rfl hv.symm, n4.same rfl hv.symm⟩, ⟨z1.moved ha, t1.moved ha, z2.moved ha, t2.moved ha, z3.moved ha, t3.moved ha⟩, ⟨z4.moved ha, z5.moved ha, s1.moved ha⟩, ⟨r1.same hv, r2.same hv, r3.same hv, r4.same hv, r5.same hv, r6.same hv, r7.same hv, r8.same hv, r9.same hv⟩⟩
/-- KK, beside the static facts -/
def KZ (l : Launch) (D : va_G) (tys : List (ClassId × FieldType)) (t : Nat → Nat) (y : MethodName) (ws : List Cond) (fr lo : Nat) (av : List Value) (w0 : va_W) (v : Option Value) (w1 : va_W) : Prop :=
  ∀ sz : Nat, Met l y ws { frames := fr, cells := 0, slots := 0, locals := lo } (va_Pc av (fun U => U.heap.size = sz ∧ va_P D vwCl w0 U.heap ∧ va_K D vwCl tys U ∧ va_D (fun _ => True) w0 ∧ ZZ t (va_A w0 sz) U)) (kq v (kB D tys (va_A w0 sz) w1) (va_A w0 sz)) 0 0 (va_A w0 sz)
section KZE
variable {l : Launch} {D : va_G} {tys : List (ClassId × FieldType)} {t : Nat → Nat} {y : MethodName} {ws ws' : List Cond} {fr lo maxL : Nat} {cc : ByteArray} {av : List Value} {w0 w1 : va_W} {own : String}
theorem KZ.ofI {v : Int32} (hy : plainName y.cls = true) (ho : y.cls = own) (hw : ws = Cond.code y cc maxL (some .int) :: ws') (hle : (lg_sl av).length ≤ maxL)
    (body : ∀ (p : Program) (e : Env) (s : State) (m : MethodId) (args : Array Value) (below : List Frame) (meth : Method) (c : Code) (R : Room) (Q : State → Prop) (A : Nat → Prop) (ls : Array Slot), CallFix p m c cc maxL s args ws own → R.frames = fr → R.locals = lo → va_K D vwCl tys s → (∀ q, s.heap.size ≤ q → A q) → va_P D vwCl w0 s.heap → va_D A w0 → va_S A s.heap s.heap [] → lv_has ls maxL (lv_args 0 av) → ZZ t A s →
      (∀ (pc : Nat) (ls : Array Slot) (H : Heap) (locs : List Loc), va_P D vwCl w1 H → va_D A w1 → va_S A s.heap H locs → decode cc pc = .ok (.ireturn, 1) → W p l e R s m args below meth c H locs 0 0 Q (F0 m pc ls [.int v])) →
      W p l e R s m args below meth c s.heap [] 0 0 Q (F0 m 0 ls [])) : KZ l D tys t y ws fr lo av w0 (some (.int v)) w1 := by
  intro sz
  refine Met.ofW (cc := cc) (maxL := maxL) (ret := (some .int)) hy hw ?_
  intro p e s m args below meth c s₁ B hml hv
  obtain ⟨rfl, hsz, hP, hK, hD0, hZ⟩ := hv
  have hts := atoms_spec (ws := ws) B.pre
  have hown : s.vm.findClass own = some m.cls := by rw [← ho]; exact findClass_of_methodNamed B.named
  subst hsz
  have hr := B.returns
  have hlocks := B.notSynchronized
  rw [lg_entry_eq]
  exact body p e s m av.toArray below meth c _ _ (va_A w0 s.heap.size) _ ⟨B.exec, B.bytes, hml, hown, hts⟩ rfl rfl hK (fun q h => Or.inr h) hP hD0.self va_S.rf (lv_entry av hle) hZ (fun pc ls H locs hP1 hD1 hS1 hdg => W.iret B.exec B.bytes hr (fun t ht hW => ⟨rfl, ⟨by rw [ht]; exact hP1, va_K.moved hW.alike hK, hD1⟩, hS1.F ht⟩) hS1.2.2 hdg)
theorem KZ.ofZ {v : Int32} (hy : plainName y.cls = true) (ho : y.cls = own) (hw : ws = Cond.code y cc maxL (some .boolean) :: ws') (hle : (lg_sl av).length ≤ maxL)
    (body : ∀ (p : Program) (e : Env) (s : State) (m : MethodId) (args : Array Value) (below : List Frame) (meth : Method) (c : Code) (R : Room) (Q : State → Prop) (A : Nat → Prop) (ls : Array Slot), CallFix p m c cc maxL s args ws own → R.frames = fr → R.locals = lo → va_K D vwCl tys s → (∀ q, s.heap.size ≤ q → A q) → va_P D vwCl w0 s.heap → va_D A w0 → va_S A s.heap s.heap [] → lv_has ls maxL (lv_args 0 av) → ZZ t A s →
      (∀ (pc : Nat) (ls : Array Slot) (H : Heap) (locs : List Loc), va_P D vwCl w1 H → va_D A w1 → va_S A s.heap H locs → decode cc pc = .ok (.ireturn, 1) → narrow .boolean (.int v) = .int v → W p l e R s m args below meth c H locs 0 0 Q (F0 m pc ls [.int v])) →
      W p l e R s m args below meth c s.heap [] 0 0 Q (F0 m 0 ls [])) : KZ l D tys t y ws fr lo av w0 (some (.int v)) w1 := by
  intro sz
  refine Met.ofW (cc := cc) (maxL := maxL) (ret := (some .boolean)) hy hw ?_
  intro p e s m args below meth c s₁ B hml hv
  obtain ⟨rfl, hsz, hP, hK, hD0, hZ⟩ := hv
  have hts := atoms_spec (ws := ws) B.pre
  have hown : s.vm.findClass own = some m.cls := by rw [← ho]; exact findClass_of_methodNamed B.named
  subst hsz
  have hr := B.returns
  have hlocks := B.notSynchronized
  rw [lg_entry_eq]
  exact body p e s m av.toArray below meth c _ _ (va_A w0 s.heap.size) _ ⟨B.exec, B.bytes, hml, hown, hts⟩ rfl rfl hK (fun q h => Or.inr h) hP hD0.self va_S.rf (lv_entry av hle) hZ (fun pc ls H locs hP1 hD1 hS1 hdg hn => W.zret B.exec B.bytes hr hn (fun t ht hW => ⟨rfl, ⟨by rw [ht]; exact hP1, va_K.moved hW.alike hK, hD1⟩, hS1.F ht⟩) hS1.2.2 hdg)
theorem KZ.ofL {v : Int64} (hy : plainName y.cls = true) (ho : y.cls = own) (hw : ws = Cond.code y cc maxL (some .long) :: ws') (hle : (lg_sl av).length ≤ maxL)
    (body : ∀ (p : Program) (e : Env) (s : State) (m : MethodId) (args : Array Value) (below : List Frame) (meth : Method) (c : Code) (R : Room) (Q : State → Prop) (A : Nat → Prop) (ls : Array Slot), CallFix p m c cc maxL s args ws own → R.frames = fr → R.locals = lo → va_K D vwCl tys s → (∀ q, s.heap.size ≤ q → A q) → va_P D vwCl w0 s.heap → va_D A w0 → va_S A s.heap s.heap [] → lv_has ls maxL (lv_args 0 av) → ZZ t A s →
      (∀ (pc : Nat) (ls : Array Slot) (H : Heap) (locs : List Loc), va_P D vwCl w1 H → va_D A w1 → va_S A s.heap H locs → decode cc pc = .ok (.lreturn, 1) → W p l e R s m args below meth c H locs 0 0 Q (F0 m pc ls [.long v])) →
      W p l e R s m args below meth c s.heap [] 0 0 Q (F0 m 0 ls [])) : KZ l D tys t y ws fr lo av w0 (some (.long v)) w1 := by
  intro sz
  refine Met.ofW (cc := cc) (maxL := maxL) (ret := (some .long)) hy hw ?_
  intro p e s m args below meth c s₁ B hml hv
  obtain ⟨rfl, hsz, hP, hK, hD0, hZ⟩ := hv
  have hts := atoms_spec (ws := ws) B.pre
  have hown : s.vm.findClass own = some m.cls := by rw [← ho]; exact findClass_of_methodNamed B.named
  subst hsz
  have hr := B.returns
  have hlocks := B.notSynchronized
  rw [lg_entry_eq]
  exact body p e s m av.toArray below meth c _ _ (va_A w0 s.heap.size) _ ⟨B.exec, B.bytes, hml, hown, hts⟩ rfl rfl hK (fun q h => Or.inr h) hP hD0.self va_S.rf (lv_entry av hle) hZ (fun pc ls H locs hP1 hD1 hS1 hdg => W.lret B.exec B.bytes hr (fun t ht hW => ⟨rfl, ⟨by rw [ht]; exact hP1, va_K.moved hW.alike hK, hD1⟩, hS1.F ht⟩) hS1.2.2 hdg)
theorem KZ.ofV (hy : plainName y.cls = true) (ho : y.cls = own) (hw : ws = Cond.code y cc maxL none :: ws') (hle : (lg_sl av).length ≤ maxL)
    (body : ∀ (p : Program) (e : Env) (s : State) (m : MethodId) (args : Array Value) (below : List Frame) (meth : Method) (c : Code) (R : Room) (Q : State → Prop) (A : Nat → Prop) (ls : Array Slot), CallFix p m c cc maxL s args ws own → R.frames = fr → R.locals = lo → va_K D vwCl tys s → (∀ q, s.heap.size ≤ q → A q) → va_P D vwCl w0 s.heap → va_D A w0 → va_S A s.heap s.heap [] → lv_has ls maxL (lv_args 0 av) → ZZ t A s →
      (∀ (pc : Nat) (ls : Array Slot) (H : Heap) (locs : List Loc), va_P D vwCl w1 H → va_D A w1 → va_S A s.heap H locs → decode cc pc = .ok (.return_, 1) → W p l e R s m args below meth c H locs 0 0 Q (F0 m pc ls [])) →
      W p l e R s m args below meth c s.heap [] 0 0 Q (F0 m 0 ls [])) : KZ l D tys t y ws fr lo av w0 none w1 := by
  intro sz
  refine Met.ofW (cc := cc) (maxL := maxL) (ret := none) hy hw ?_
  intro p e s m args below meth c s₁ B hml hv
  obtain ⟨rfl, hsz, hP, hK, hD0, hZ⟩ := hv
  have hts := atoms_spec (ws := ws) B.pre
  have hown : s.vm.findClass own = some m.cls := by rw [← ho]; exact findClass_of_methodNamed B.named
  subst hsz
  have hr := B.returns
  have hlocks := B.notSynchronized
  rw [lg_entry_eq]
  exact body p e s m av.toArray below meth c _ _ (va_A w0 s.heap.size) _ ⟨B.exec, B.bytes, hml, hown, hts⟩ rfl rfl hK (fun q h => Or.inr h) hP hD0.self va_S.rf (lv_entry av hle) hZ (fun pc ls H locs hP1 hD1 hS1 hdg => W.vret B.exec B.bytes hr (fun t ht hW => ⟨rfl, ⟨by rw [ht]; exact hP1, va_K.moved hW.alike hK, hD1⟩, hS1.F ht⟩) hS1.2.2 hdg)
end KZE
section KZC
variable {p : Program} {l : Launch} {e : Env} {R : Room} {s : State} {m : MethodId} {args : Array Value} {below : List Frame} {meth : Method} {c : Code} {H : Heap} {locs : List Loc} {Q : State → Prop}
variable {cc : ByteArray} {pc : Nat} {ls : Array Slot} {rest st : List Value} {D : va_G} {A : Nat → Prop} {tys : List (ClassId × FieldType)} {t : Nat → Nat} {Ts ws ws' : List Cond} {own C : String} {index maxL nL fr lo Rf Rl : Nat} {y : MethodName} {bytes : ByteArray} {ret : Option FieldType} {v : Option Value} {wc w1 wm : va_W} {lv : List (Nat × Value)} {H0 : Heap}
theorem kz_go {Av : Array Value} (hr : va_Run p l e R s m args below meth c H locs 0 0 0 0 (F0 m pc ls st) rest (kq v (kB D tys (va_A wc H.size) w1) (va_A wc H.size) Av) (va_A wc H.size)) (hP : va_P D vwCl wm H) (hD : va_D A wm) (hS : va_S A H0 H locs) (hF : ∀ q, va_A wc H.size q → A q) (isC : List Nat) (hC : isC.map (fun i => wm[i]?) = wc.map some) (hadr : wc.map (·.1) = w1.map (·.1))
    (kk : ∀ (H1 : Heap) (locs1 : List Loc), va_P D vwCl (kset wm isC w1) H1 → va_D A (kset wm isC w1) → va_S A H0 H1 locs1 → W p l e R s m args below meth c H1 locs1 0 0 Q (F0 m (pc + 3) ls (v.toList ++ rest))) : W p l e R s m args below meth c H locs 0 0 Q (F0 m pc ls st) := by
  intro T hT X
  obtain ⟨v2, st₀, t, T', L, h0, X', hL, e1, e2, ⟨hv, ⟨hP1, hK1, hD1⟩, hz, hk⟩, st⟩ := hr T hT X
  cases hv
  rw [h0] at hz hk
  have hPD := kset_PD (H1 := T'.heap) hP hD isC hC hadr (fun q h1 h2 => by rw [e1]; exact hk q h1 h2) (by rw [e1]; exact hP1)
  obtain ⟨t2, a1, b1⟩ := kk T'.heap (locs ++ L) hPD.1 hPD.2
    ⟨Nat.le_trans hS.1 (by rw [e1]; exact hz), fun q h1 h2 => by rw [e1, hk q (Nat.lt_of_lt_of_le h1 hS.1) (fun z => h2 (hF q z))]; exact hS.2.1 q h1 h2, fun q hq => by
      rcases List.mem_append.mp hq with h | h
      · exact hS.2.2 q h
      · exact hF _ (hL q h)⟩ T' rfl X'
  exact ⟨t2, st t2 a1, b1⟩
theorem kz_sub (hD : va_D A wm) (isC : List Nat) (hC : isC.map (fun i => wm[i]?) = wc.map some) (hnd : va_nd isC = true) : va_D (fun _ => True) wc := (hD.sub isC hnd hC).weaken (fun _ _ _ _ => trivial)
theorem kz_subP (hP : va_P D vwCl wm H) (isC : List Nat) (hC : isC.map (fun i => wm[i]?) = wc.map some) : va_P D vwCl wc H := by
  intro k q hq
  have h1 : (isC.map (fun i => wm[i]?))[k]? = some (some q) := by rw [hC, List.getElem?_map, hq]; rfl
  rw [List.getElem?_map] at h1
  cases hi : isC[k]? with
  | none => rw [hi] at h1; cases h1
  | some i => rw [hi] at h1; exact hP i q (Option.some.inj h1)
/-- a call of a method on an object whose cells stand at the places isC -/
theorem kz_v {b ci q0 n : Nat} {qq : vw_C} {fs : List Value} (S : CallFix p m c cc nL s args Ts own) (hRf : R.frames = Rf) (hRl : R.locals = Rl) (hK : va_K D vwCl tys s) (hA : ∀ q, s.heap.size ≤ q → A q) (hZ : ZZ t A s) (hP : va_P D vwCl wm H) (hD : va_D A wm) (hS : va_S A s.heap H locs) (hl : lv_has ls nL lv) (isC : List Nat) (As rest : List Value)
    (hM : KZ l D tys t y ws fr lo (.ref b :: As) wc v w1) (hC : isC.map (fun i => wm[i]?) = wc.map some) (hnd : va_nd isC = true) (hadr : wc.map (·.1) = w1.map (·.1)) (hT : GoodIn Ts (wsV own index C y ws)) (hw : ws = Cond.code y bytes maxL ret :: ws')
    (hd : y.cls = C ∧ y.cls ≠ "java/lang/invoke/MethodHandle" ∧ y.cls ≠ "java/lang/invoke/VarHandle" ∧ (parseMethodDescriptor y.desc).map (fun d => d.parameters.length) = some n) (hn : As.length = n) (hR : fr + 1 ≤ Rf ∧ 8 + (maxL + 11) + lo ≤ Rl)
    (hc : vwCl[ci]? = some qq) (hqC : qq.1 = C) (he : wc[q0]? = some (b, .inr (ci, fs))) (hstack : st = As.reverse ++ .ref b :: rest) (hst : (rest.map fun v => v.category).sum ≤ 8) (hdg : decode cc pc = .ok (.invokevirtual index, 3))
    (kk : ∀ (H1 : Heap) (locs1 : List Loc), va_P D vwCl (kset wm isC w1) H1 → va_D A (kset wm isC w1) → va_S A s.heap H1 locs1 → W p l e R s m args below meth c H1 locs1 0 0 Q (F0 m (pc + 3) ls (v.toList ++ rest))) : W p l e R s m args below meth c H locs 0 0 Q (F0 m pc ls st) := by
  have hF := va_free hD hS hA isC hC
  have hPc := kz_subP hP isC hC
  refine kz_go (va_runV (As := As) (rest := rest) S (hM H.size) (cwV n S.2.2.2.2 hT hw rfl rfl hd ⟨by rw [hRf]; exact hR.1, by rw [hRl]; exact hR.2⟩) ⟨fun a U g mk q => ?_, ?_, fun U hU hW => ⟨rfl, by rw [hU], by rw [hU]; exact hPc, va_K.moved hW.alike hK, kz_sub hD isC hC hnd, hZ.go hS hU hW hF⟩⟩ rfl hn hl.1 hstack (lv_room hst) hdg ⟨Nat.zero_le _, Nat.zero_le _⟩) hP hD hS hF isC hC hadr kk
  · obtain ⟨q0, q1, qP, qK, qD, qZ⟩ := q
    exact ⟨q0, q1, qP, va_K.moved (u := U) (U := U.calling g mk a) (Vm.Alike.refl U.vm) qK, qD, qZ.blind rfl rfl⟩
  · rw [← hqC]; exact va_recv hK hPc hc he
/-- a call of a static method on the cells at isC -/
theorem kz_s {n : Nat} (S : CallFix p m c cc nL s args Ts own) (hRf : R.frames = Rf) (hRl : R.locals = Rl) (hK : va_K D vwCl tys s) (hA : ∀ q, s.heap.size ≤ q → A q) (hZ : ZZ t A s) (hP : va_P D vwCl wm H) (hD : va_D A wm) (hS : va_S A s.heap H locs) (hl : lv_has ls nL lv) (isC : List Nat) (As rest : List Value)
    (hM : KZ l D tys t y ws fr lo As wc v w1) (hC : isC.map (fun i => wm[i]?) = wc.map some) (hnd : va_nd isC = true) (hadr : wc.map (·.1) = w1.map (·.1)) (hT : GoodIn Ts (va_wsS own index y ws)) (hw : ws = Cond.code y bytes maxL ret :: ws')
    (hd : y.cls ≠ "java/lang/invoke/MethodHandle" ∧ y.cls ≠ "java/lang/invoke/VarHandle" ∧ (parseMethodDescriptor y.desc).map (fun d => d.parameters.length) = some n) (hn : As.length = n) (hR : fr + 1 ≤ Rf ∧ 8 + (maxL + 11) + lo ≤ Rl)
    (hstack : st = As.reverse ++ rest) (hst : (rest.map fun v => v.category).sum ≤ 8) (hdg : decode cc pc = .ok (.invokestatic index, 3))
    (kk : ∀ (H1 : Heap) (locs1 : List Loc), va_P D vwCl (kset wm isC w1) H1 → va_D A (kset wm isC w1) → va_S A s.heap H1 locs1 → W p l e R s m args below meth c H1 locs1 0 0 Q (F0 m (pc + 3) ls (v.toList ++ rest))) : W p l e R s m args below meth c H locs 0 0 Q (F0 m pc ls st) := by
  have hF := va_free hD hS hA isC hC
  have hPc := kz_subP hP isC hC
  refine kz_go (va_runS (As := As) (rest := rest) S (hM H.size) (va_cwS n S.2.2.2.2 hT hw rfl rfl hd ⟨by rw [hRf]; exact hR.1, by rw [hRl]; exact hR.2⟩) ⟨fun a U g mk q => ?_, fun U hU hW => ⟨rfl, by rw [hU], by rw [hU]; exact hPc, va_K.moved hW.alike hK, kz_sub hD isC hC hnd, hZ.go hS hU hW hF⟩⟩ rfl hn hl.1 hstack (lv_room hst) hdg ⟨Nat.zero_le _, Nat.zero_le _⟩) hP hD hS hF isC hC hadr kk
  obtain ⟨q0, q1, qP, qK, qD, qZ⟩ := q
  exact ⟨q0, q1, qP, va_K.moved (u := U) (U := U.calling g mk a) (Vm.Alike.refl U.vm) qK, qD, qZ.blind rfl rfl⟩
/-- a call of a nest mate's private static method that needs no cells -/
theorem kz_n {n : Nat} {host : String} (S : CallFix p m c cc nL s args Ts own) (hRf : R.frames = Rf) (hRl : R.locals = Rl) (hK : va_K D vwCl tys s) (hA : ∀ q, s.heap.size ≤ q → A q) (hZ : ZZ t A s) (hP : va_P D vwCl wm H) (hD : va_D A wm) (hS : va_S A s.heap H locs) (hl : lv_has ls nL lv) (As rest : List Value)
    (hM : KZ l D tys t y ws fr lo As [] v []) (hN : va_Nw (.methodLinkNest own index y host) s) (hT : GoodIn Ts ws) (hw : ws = Cond.code y bytes maxL ret :: ws') (hini : (Cond.initialized y.cls).before args s = true) (hsta : (Cond.static y).before args s = true)
    (hd : y.cls ≠ "java/lang/invoke/MethodHandle" ∧ y.cls ≠ "java/lang/invoke/VarHandle" ∧ (parseMethodDescriptor y.desc).map (fun d => d.parameters.length) = some n) (hn : As.length = n) (hR : fr + 1 ≤ Rf ∧ 8 + (maxL + 11) + lo ≤ Rl)
    (hstack : st = As.reverse ++ rest) (hst : (rest.map fun v => v.category).sum ≤ 8) (hdg : decode cc pc = .ok (.invokestatic index, 3))
    (kk : ∀ (H1 : Heap) (locs1 : List Loc), va_P D vwCl wm H1 → va_D A wm → va_S A s.heap H1 locs1 → W p l e R s m args below meth c H1 locs1 0 0 Q (F0 m (pc + 3) ls (v.toList ++ rest))) : W p l e R s m args below meth c H locs 0 0 Q (F0 m pc ls st) := by
  have hC : ([] : List Nat).map (fun i => wm[i]?) = ([] : va_W).map some := rfl
  have hF := va_free hD hS hA [] hC
  refine kz_go (wc := []) (w1 := []) (va_runSN (As := As) (rest := rest) S (hM H.size) ⟨va_cnB n S.2.2.2.2 hT hw rfl rfl hN hini hd ⟨by rw [hRf]; exact hR.1, by rw [hRl]; exact hR.2⟩, hsta, trivial⟩ ⟨fun a U g mk q => ?_, fun U hU hW => ⟨rfl, by rw [hU], fun k q h => by simp at h, va_K.moved hW.alike hK, ⟨fun i j p q h => by simp at h, fun k q h => by simp at h⟩, hZ.go hS hU hW hF⟩⟩ rfl hn hl.1 hstack (lv_room hst) hdg ⟨Nat.zero_le _, Nat.zero_le _⟩) hP hD hS hF [] hC rfl kk
  obtain ⟨q0, q1, qP, qK, qD, qZ⟩ := q
  exact ⟨q0, q1, qP, va_K.moved (u := U) (U := U.calling g mk a) (Vm.Alike.refl U.vm) qK, qD, qZ.blind rfl rfl⟩
end KZC
def bd3 {α β γ δ : Type} (x : Option (α × β × γ)) (f : α → β → γ → Option δ) : Option δ := Option.bind x (fun q => f q.1 q.2.1 q.2.2)
theorem bd3_some {α β γ δ : Type} {x : Option (α × β × γ)} {f : α → β → γ → Option δ} {r : δ} (h : bd3 x f = some r) : ∃ a b c, x = some (a, b, c) ∧ f a b c = some r := by
  cases x with
  | none => cases h
  | some q => exact ⟨q.1, q.2.1, q.2.2, rfl, h⟩
def bd4 {α β γ δ ε : Type} (x : Option (α × β × γ × δ)) (f : α → β → γ → δ → Option ε) : Option ε := Option.bind x (fun q => f q.1 q.2.1 q.2.2.1 q.2.2.2)
theorem bd4_some {α β γ δ ε : Type} {x : Option (α × β × γ × δ)} {f : α → β → γ → δ → Option ε} {r : ε} (h : bd4 x f = some r) : ∃ a b c d, x = some (a, b, c, d) ∧ f a b c d = some r := by
  cases x with
  | none => cases h
  | some q => exact ⟨q.1, q.2.1, q.2.2.1, q.2.2.2, rfl, h⟩
