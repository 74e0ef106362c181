/-! my own rows: a contract whose answer and cells are given outright, its entry, its calls -/
/-- a call's end: the answer v, the world B, nothing else changed -/
def kq (v : Option Value) (B : State → Prop) (A : Nat → Prop) : Array Value → State → Outcome → State → Prop := fun _ st oc t => oc = .returned v ∧ B t ∧ va_F A st t
abbrev kB (D : va_G) (tys : List (ClassId × FieldType)) (A : Nat → Prop) (w1 : va_W) : State → Prop := fun t => va_P D vwCl w1 t.heap ∧ va_K D vwCl tys t ∧ va_D A w1
/-- the contract: from the cells w0 the method y at the arguments av answers v, and leaves the cells w1 -/
def KK (l : Launch) (D : va_G) (tys : List (ClassId × FieldType)) (y : MethodName) (ws : List Cond) (fr lo : Nat) (av : List Value) (w0 : va_W) (v : Option Value) (w1 : va_W) : Prop :=
  ∀ sz : Nat, Met l y ws { frames := fr, cells := 0, slots := 0, locals := lo } (va_Pc av (fun U => U.heap.size = sz ∧ va_P D vwCl w0 U.heap ∧ va_K D vwCl tys U ∧ va_D (fun _ => True) w0)) (kq v (kB D tys (va_A w0 sz) w1) (va_A w0 sz)) 0 0 (va_A w0 sz)
section KE
variable {l : Launch} {D : va_G} {tys : List (ClassId × FieldType)} {y : MethodName} {ws ws' : List Cond} {fr lo maxL : Nat} {cc : ByteArray} {av : List Value} {w0 w1 : va_W} {own : String}
theorem KK.ofI {v : Int32} (hy : plainName y.cls = true) (ho : y.cls = own) (hw : ws = Cond.code y cc maxL (some .int) :: ws') (hle : (lg_sl av).length ≤ maxL)
    (body : ∀ (p : Program) (e : Env) (s : State) (m : MethodId) (args : Array Value) (below : List Frame) (meth : Method) (c : Code) (R : Room) (Q : State → Prop) (A : Nat → Prop) (ls : Array Slot), CallFix p m c cc maxL s args ws own → R.frames = fr → R.locals = lo → va_K D vwCl tys s → (∀ q, s.heap.size ≤ q → A q) → va_P D vwCl w0 s.heap → va_D A w0 → va_S A s.heap s.heap [] → lv_has ls maxL (lv_args 0 av) →
      (∀ (pc : Nat) (ls : Array Slot) (H : Heap) (locs : List Loc), va_P D vwCl w1 H → va_D A w1 → va_S A s.heap H locs → decode cc pc = .ok (.ireturn, 1) → W p l e R s m args below meth c H locs 0 0 Q (F0 m pc ls [.int v])) →
      W p l e R s m args below meth c s.heap [] 0 0 Q (F0 m 0 ls [])) : KK l D tys y ws fr lo av w0 (some (.int v)) w1 := by
  intro sz
  refine Met.ofW (cc := cc) (maxL := maxL) (ret := some .int) hy hw ?_
  intro p e s m args below meth c s₁ B hml hv
  obtain ⟨rfl, hsz, hP, hK, hD0⟩ := hv
  have hts := atoms_spec (ws := ws) B.pre
  have hown : s.vm.findClass own = some m.cls := by rw [← ho]; exact findClass_of_methodNamed B.named
  subst hsz
  have hr := B.returns
  have hlocks := B.notSynchronized
  rw [lg_entry_eq]
  exact body p e s m av.toArray below meth c _ _ (va_A w0 s.heap.size) _ ⟨B.exec, B.bytes, hml, hown, hts⟩ rfl rfl hK (fun q h => Or.inr h) hP hD0.self va_S.rf (lv_entry av hle) (fun pc ls H locs hP1 hD1 hS1 hdg => W.iret B.exec B.bytes hr (fun t ht hW => ⟨rfl, ⟨by rw [ht]; exact hP1, va_K.moved hW.alike hK, hD1⟩, hS1.F ht⟩) hS1.2.2 hdg)
theorem KK.ofZ {v : Int32} (hy : plainName y.cls = true) (ho : y.cls = own) (hw : ws = Cond.code y cc maxL (some .boolean) :: ws') (hle : (lg_sl av).length ≤ maxL)
    (body : ∀ (p : Program) (e : Env) (s : State) (m : MethodId) (args : Array Value) (below : List Frame) (meth : Method) (c : Code) (R : Room) (Q : State → Prop) (A : Nat → Prop) (ls : Array Slot), CallFix p m c cc maxL s args ws own → R.frames = fr → R.locals = lo → va_K D vwCl tys s → (∀ q, s.heap.size ≤ q → A q) → va_P D vwCl w0 s.heap → va_D A w0 → va_S A s.heap s.heap [] → lv_has ls maxL (lv_args 0 av) →
      (∀ (pc : Nat) (ls : Array Slot) (H : Heap) (locs : List Loc), va_P D vwCl w1 H → va_D A w1 → va_S A s.heap H locs → decode cc pc = .ok (.ireturn, 1) → narrow .boolean (.int v) = .int v → W p l e R s m args below meth c H locs 0 0 Q (F0 m pc ls [.int v])) →
      W p l e R s m args below meth c s.heap [] 0 0 Q (F0 m 0 ls [])) : KK l D tys y ws fr lo av w0 (some (.int v)) w1 := by
  intro sz
  refine Met.ofW (cc := cc) (maxL := maxL) (ret := some .boolean) hy hw ?_
  intro p e s m args below meth c s₁ B hml hv
  obtain ⟨rfl, hsz, hP, hK, hD0⟩ := hv
  have hts := atoms_spec (ws := ws) B.pre
  have hown : s.vm.findClass own = some m.cls := by rw [← ho]; exact findClass_of_methodNamed B.named
  subst hsz
  have hr := B.returns
  have hlocks := B.notSynchronized
  rw [lg_entry_eq]
  exact body p e s m av.toArray below meth c _ _ (va_A w0 s.heap.size) _ ⟨B.exec, B.bytes, hml, hown, hts⟩ rfl rfl hK (fun q h => Or.inr h) hP hD0.self va_S.rf (lv_entry av hle) (fun pc ls H locs hP1 hD1 hS1 hdg hn => W.zret B.exec B.bytes hr hn (fun t ht hW => ⟨rfl, ⟨by rw [ht]; exact hP1, va_K.moved hW.alike hK, hD1⟩, hS1.F ht⟩) hS1.2.2 hdg)
theorem KK.ofL {v : Int64} (hy : plainName y.cls = true) (ho : y.cls = own) (hw : ws = Cond.code y cc maxL (some .long) :: ws') (hle : (lg_sl av).length ≤ maxL)
    (body : ∀ (p : Program) (e : Env) (s : State) (m : MethodId) (args : Array Value) (below : List Frame) (meth : Method) (c : Code) (R : Room) (Q : State → Prop) (A : Nat → Prop) (ls : Array Slot), CallFix p m c cc maxL s args ws own → R.frames = fr → R.locals = lo → va_K D vwCl tys s → (∀ q, s.heap.size ≤ q → A q) → va_P D vwCl w0 s.heap → va_D A w0 → va_S A s.heap s.heap [] → lv_has ls maxL (lv_args 0 av) →
      (∀ (pc : Nat) (ls : Array Slot) (H : Heap) (locs : List Loc), va_P D vwCl w1 H → va_D A w1 → va_S A s.heap H locs → decode cc pc = .ok (.lreturn, 1) → W p l e R s m args below meth c H locs 0 0 Q (F0 m pc ls [.long v])) →
      W p l e R s m args below meth c s.heap [] 0 0 Q (F0 m 0 ls [])) : KK l D tys y ws fr lo av w0 (some (.long v)) w1 := by
  intro sz
  refine Met.ofW (cc := cc) (maxL := maxL) (ret := some .long) hy hw ?_
  intro p e s m args below meth c s₁ B hml hv
  obtain ⟨rfl, hsz, hP, hK, hD0⟩ := hv
  have hts := atoms_spec (ws := ws) B.pre
  have hown : s.vm.findClass own = some m.cls := by rw [← ho]; exact findClass_of_methodNamed B.named
  subst hsz
  have hr := B.returns
  have hlocks := B.notSynchronized
  rw [lg_entry_eq]
  exact body p e s m av.toArray below meth c _ _ (va_A w0 s.heap.size) _ ⟨B.exec, B.bytes, hml, hown, hts⟩ rfl rfl hK (fun q h => Or.inr h) hP hD0.self va_S.rf (lv_entry av hle) (fun pc ls H locs hP1 hD1 hS1 hdg => W.lret B.exec B.bytes hr (fun t ht hW => ⟨rfl, ⟨by rw [ht]; exact hP1, va_K.moved hW.alike hK, hD1⟩, hS1.F ht⟩) hS1.2.2 hdg)
theorem KK.ofV (hy : plainName y.cls = true) (ho : y.cls = own) (hw : ws = Cond.code y cc maxL none :: ws') (hle : (lg_sl av).length ≤ maxL)
    (body : ∀ (p : Program) (e : Env) (s : State) (m : MethodId) (args : Array Value) (below : List Frame) (meth : Method) (c : Code) (R : Room) (Q : State → Prop) (A : Nat → Prop) (ls : Array Slot), CallFix p m c cc maxL s args ws own → R.frames = fr → R.locals = lo → va_K D vwCl tys s → (∀ q, s.heap.size ≤ q → A q) → va_P D vwCl w0 s.heap → va_D A w0 → va_S A s.heap s.heap [] → lv_has ls maxL (lv_args 0 av) →
      (∀ (pc : Nat) (ls : Array Slot) (H : Heap) (locs : List Loc), va_P D vwCl w1 H → va_D A w1 → va_S A s.heap H locs → decode cc pc = .ok (.return_, 1) → W p l e R s m args below meth c H locs 0 0 Q (F0 m pc ls [])) →
      W p l e R s m args below meth c s.heap [] 0 0 Q (F0 m 0 ls [])) : KK l D tys y ws fr lo av w0 none w1 := by
  intro sz
  refine Met.ofW (cc := cc) (maxL := maxL) (ret := none) hy hw ?_
  intro p e s m args below meth c s₁ B hml hv
  obtain ⟨rfl, hsz, hP, hK, hD0⟩ := hv
  have hts := atoms_spec (ws := ws) B.pre
  have hown : s.vm.findClass own = some m.cls := by rw [← ho]; exact findClass_of_methodNamed B.named
  subst hsz
  have hr := B.returns
  have hlocks := B.notSynchronized
  rw [lg_entry_eq]
  exact body p e s m av.toArray below meth c _ _ (va_A w0 s.heap.size) _ ⟨B.exec, B.bytes, hml, hown, hts⟩ rfl rfl hK (fun q h => Or.inr h) hP hD0.self va_S.rf (lv_entry av hle) (fun pc ls H locs hP1 hD1 hS1 hdg => W.vret B.exec B.bytes hr (fun t ht hW => ⟨rfl, ⟨by rw [ht]; exact hP1, va_K.moved hW.alike hK, hD1⟩, hS1.F ht⟩) hS1.2.2 hdg)
end KE
section KC
variable {p : Program} {l : Launch} {e : Env} {R : Room} {s : State} {m : MethodId} {args : Array Value} {below : List Frame} {meth : Method} {c : Code} {H : Heap} {locs : List Loc} {Q : State → Prop}
variable {cc : ByteArray} {pc : Nat} {ls : Array Slot} {rest st : List Value} {D : va_G} {A : Nat → Prop} {tys : List (ClassId × FieldType)} {H0 : Heap} {Ts ws ws' : List Cond} {own C : String} {index maxL nL fr lo Rf Rl : Nat} {y : MethodName} {bytes : ByteArray} {ret : Option FieldType} {v : Option Value} {w0 w1 : va_W} {lv : List (Nat × Value)}
/-- behind a call: the machine as the contract leaves it -/
theorem kc_go {Av : Array Value} (hr : va_Run p l e R s m args below meth c H locs 0 0 0 0 (F0 m pc ls st) rest (kq v (kB D tys (va_A w0 H.size) w1) (va_A w0 H.size) Av) (va_A w0 H.size)) (hS : va_S A H0 H locs) (hF : ∀ q, va_A w0 H.size q → A q)
    (kk : ∀ (H1 : Heap) (locs1 : List Loc), va_P D vwCl w1 H1 → va_D A w1 → va_S A H0 H1 locs1 → W p l e R s m args below meth c H1 locs1 0 0 Q (F0 m (pc + 3) ls (v.toList ++ rest))) : W p l e R s m args below meth c H locs 0 0 Q (F0 m pc ls st) := by
  intro T hT X
  obtain ⟨v2, st₀, t, T', L, h0, X', hL, e1, e2, ⟨hv, ⟨hP1, hK1, hD1⟩, hz, hk⟩, st⟩ := hr T hT X
  cases hv
  rw [h0] at hz hk
  obtain ⟨t2, a1, b1⟩ := kk T'.heap (locs ++ L) (by rw [e1]; exact hP1) (hD1.weaken (fun k q _ h => hF q.1 h))
    ⟨Nat.le_trans hS.1 (by rw [e1]; exact hz), fun q h1 h2 => by rw [e1, hk q (Nat.lt_of_lt_of_le h1 hS.1) (fun z => h2 (hF q z))]; exact hS.2.1 q h1 h2, fun q hq => by
      rcases List.mem_append.mp hq with h | h
      · exact hS.2.2 q h
      · exact hF _ (hL q h)⟩ T' rfl X'
  exact ⟨t2, st t2 a1, b1⟩
theorem kF_all (hA : ∀ q, H0.size ≤ q → A q) (hD : va_D A w0) (hS : va_S A H0 H locs) : ∀ q, va_A w0 H.size q → A q := fun q h => by
  rcases h with ⟨k, e, h⟩ | h
  · exact hD.2 k (q, e) h
  · exact hA q (Nat.le_trans hS.1 h)
theorem kc_v {b ci q0 n : Nat} {qq : vw_C} {fs : List Value} (S : CallFix p m c cc nL s args Ts own) (hRf : R.frames = Rf) (hRl : R.locals = Rl) (hK : va_K D vwCl tys s) (hA : ∀ q, H0.size ≤ q → A q) (hP : va_P D vwCl w0 H) (hD : va_D A w0) (hS : va_S A H0 H locs) (hl : lv_has ls nL lv) (As rest : List Value)
    (hM : KK l D tys y ws fr lo (.ref b :: As) w0 v w1) (hT : GoodIn Ts (wsV own index C y ws)) (hw : ws = Cond.code y bytes maxL ret :: ws')
    (hd : y.cls = C ∧ y.cls ≠ "java/lang/invoke/MethodHandle" ∧ y.cls ≠ "java/lang/invoke/VarHandle" ∧ (parseMethodDescriptor y.desc).map (fun d => d.parameters.length) = some n) (hn : As.length = n) (hR : fr + 1 ≤ Rf ∧ 8 + (maxL + 11) + lo ≤ Rl)
    (hc : vwCl[ci]? = some qq) (hqC : qq.1 = C) (he : w0[q0]? = some (b, .inr (ci, fs))) (hstack : st = As.reverse ++ .ref b :: rest) (hst : (rest.map fun v => v.category).sum ≤ 8) (hdg : decode cc pc = .ok (.invokevirtual index, 3))
    (kk : ∀ (H1 : Heap) (locs1 : List Loc), va_P D vwCl w1 H1 → va_D A w1 → va_S A H0 H1 locs1 → W p l e R s m args below meth c H1 locs1 0 0 Q (F0 m (pc + 3) ls (v.toList ++ rest))) : W p l e R s m args below meth c H locs 0 0 Q (F0 m pc ls st) := by
  have hF := kF_all hA hD hS
  refine kc_go (va_runV (As := As) (rest := rest) S (hM H.size) (cwV n S.2.2.2.2 hT hw rfl rfl hd ⟨by rw [hRf]; exact hR.1, by rw [hRl]; exact hR.2⟩) ⟨fun a U g mk q => ?_, ?_, fun U hU hW => ⟨rfl, by rw [hU], by rw [hU]; exact hP, va_K.moved hW.alike hK, hD.weaken (fun _ _ _ _ => trivial)⟩⟩ rfl hn hl.1 hstack (lv_room hst) hdg ⟨Nat.zero_le _, Nat.zero_le _⟩) hS hF kk
  · obtain ⟨q0, q1, qP, qK, qD⟩ := q
    exact ⟨q0, q1, qP, va_K.moved (u := U) (U := U.calling g mk a) (Vm.Alike.refl U.vm) qK, qD⟩
  · rw [← hqC]; exact va_recv hK hP hc he
theorem kc_s {n : Nat} (S : CallFix p m c cc nL s args Ts own) (hRf : R.frames = Rf) (hRl : R.locals = Rl) (hK : va_K D vwCl tys s) (hA : ∀ q, H0.size ≤ q → A q) (hP : va_P D vwCl w0 H) (hD : va_D A w0) (hS : va_S A H0 H locs) (hl : lv_has ls nL lv) (As rest : List Value)
    (hM : KK l D tys y ws fr lo As w0 v w1) (hT : GoodIn Ts (va_wsS own index y ws)) (hw : ws = Cond.code y bytes maxL ret :: ws')
    (hd : y.cls ≠ "java/lang/invoke/MethodHandle" ∧ y.cls ≠ "java/lang/invoke/VarHandle" ∧ (parseMethodDescriptor y.desc).map (fun d => d.parameters.length) = some n) (hn : As.length = n) (hR : fr + 1 ≤ Rf ∧ 8 + (maxL + 11) + lo ≤ Rl)
    (hstack : st = As.reverse ++ rest) (hst : (rest.map fun v => v.category).sum ≤ 8) (hdg : decode cc pc = .ok (.invokestatic index, 3))
    (kk : ∀ (H1 : Heap) (locs1 : List Loc), va_P D vwCl w1 H1 → va_D A w1 → va_S A H0 H1 locs1 → W p l e R s m args below meth c H1 locs1 0 0 Q (F0 m (pc + 3) ls (v.toList ++ rest))) : W p l e R s m args below meth c H locs 0 0 Q (F0 m pc ls st) := by
  have hF := kF_all hA hD hS
  refine kc_go (va_runS (As := As) (rest := rest) S (hM H.size) (va_cwS n S.2.2.2.2 hT hw rfl rfl hd ⟨by rw [hRf]; exact hR.1, by rw [hRl]; exact hR.2⟩) ⟨fun a U g mk q => ?_, fun U hU hW => ⟨rfl, by rw [hU], by rw [hU]; exact hP, va_K.moved hW.alike hK, hD.weaken (fun _ _ _ _ => trivial)⟩⟩ rfl hn hl.1 hstack (lv_room hst) hdg ⟨Nat.zero_le _, Nat.zero_le _⟩) hS hF kk
  obtain ⟨q0, q1, qP, qK, qD⟩ := q
  exact ⟨q0, q1, qP, va_K.moved (u := U) (U := U.calling g mk a) (Vm.Alike.refl U.vm) qK, qD⟩
end KC
/-- a value gets a name -/
def nm {α β : Type} (e : α) (f : α → Option β) : Option β := f e
theorem nm_some {α β : Type} {e : α} {f : α → Option β} {r : β} (h : nm e f = some r) : ∃ x, x = e ∧ f x = some r := ⟨e, rfl, h⟩
theorem bi_some {α β : Type} {x : Option α} {f : α → Option β} {r : β} (h : x.bind f = some r) : ∃ a, x = some a ∧ f a = some r := by
  cases x with
  | none => cases h
  | some a => exact ⟨a, rfl, h⟩
def gd {β : Type} (c : Prop) [Decidable c] (x : Option β) : Option β := if c then x else none
theorem gd_some {β : Type} {c : Prop} [Decidable c] {x : Option β} {r : β} (h : gd c x = some r) : c ∧ x = some r := by
  unfold gd at h
  by_cases hc : c
  · rw [if_pos hc] at h; exact ⟨hc, h⟩
  · rw [if_neg hc] at h; cases h
theorem gd_t {β : Type} {c : Prop} [Decidable c] {x : Option β} (h : c) : gd c x = x := if_pos h
