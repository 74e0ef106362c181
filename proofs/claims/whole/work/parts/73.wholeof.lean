section KNI
variable {p : Program} {l : Launch} {e : Env} {R : Room} {s : State} {m : MethodId} {args : Array Value} {below : List Frame} {meth : Method} {c : Code} {H : Heap} {locs : List Loc} {cells slots : Nat} {Q : State → Prop}
variable {cc : ByteArray} {pc : Nat} {ls : Array Slot} {rest st : List Value} {D : va_G} {A : Nat → Prop} {tys : List (ClassId × FieldType)} {Ts ws ws' : List Cond} {own : String} {index maxL nL fr lo Rf Rl Rc Rs mc ms : Nat} {y : MethodName} {bytes : ByteArray} {wr : va_W} {lv : List (Nat × Value)} {X : va_W → Prop}
/-- a constructor, on the last cell -/
theorem kn_i {b ci : Nat} {fs : List Value} (S : CallFix p m c cc nL s args Ts own) (hRf : R.frames = Rf) (hRl : R.locals = Rl) (hRc : R.cells = Rc) (hRs : R.slots = Rs) (hK : va_K D vwCl tys s) (hA : ∀ q, s.heap.size ≤ q → A q) (hN : NN s) (hP : va_P D vwCl (wr ++ [(b, .inr (ci, fs))]) H) (hD : va_D A (wr ++ [(b, .inr (ci, fs))])) (hS : va_S A s.heap H locs) (hl : lv_has ls nL lv) (rest : List Value)
    (hM : KN l D tys y ws fr lo mc ms [.ref b] [(b, .inr (ci, fs))] X) (hT : GoodIn Ts ws) (hw : ws = Cond.code y bytes maxL none :: ws') (hini : (Cond.initialized y.cls).before args s = true) (hlk : (Cond.methodLink own index y).before args s = true) (hinst : (Cond.instanceMethod y).before args s = true)
    (hd : y.cls ≠ "java/lang/invoke/MethodHandle" ∧ y.cls ≠ "java/lang/invoke/VarHandle" ∧ (parseMethodDescriptor y.desc).map (fun d => d.parameters.length) = some 0) (hnm : y.name = "<init>") (hR : fr + 1 ≤ Rf ∧ 8 + (maxL + 11) + lo ≤ Rl) (hcs : cells + mc ≤ Rc ∧ slots + ms ≤ Rs)
    (hstack : st = .ref b :: rest) (hst : (rest.map fun v => v.category).sum ≤ 8) (hdg : decode cc pc = .ok (.invokespecial index, 3))
    (kk : ∀ (w1 : va_W) (H1 : Heap) (locs1 : List Loc), X w1 → va_P D vwCl (wr ++ w1) H1 → va_D A (wr ++ w1) → va_S A s.heap H1 locs1 → W p l e R s m args below meth c H1 locs1 (cells + mc) (slots + ms) Q (F0 m (pc + 3) ls rest)) : W p l e R s m args below meth c H locs cells slots Q (F0 m pc ls st) := by
  have hF := kF_suf hA hD hS
  have hPc : va_P D vwCl [(b, .inr (ci, fs))] H := fun k q hq => hP (wr.length + k) q (by rw [List.getElem?_append_right (by omega), Nat.add_sub_cancel_left]; exact hq)
  refine kn_go (va_runI (As := []) (rest := rest) S (hM H.size) (cwI 0 S.2.2.2.2 hT hw rfl rfl hini hlk hinst hnm hd ⟨by rw [hRf]; exact hR.1, by rw [hRl]; exact hR.2⟩) ⟨fun a U g mk q => ?_, fun U hU hW => ⟨rfl, by rw [hU], by rw [hU]; exact hPc, va_K.moved hW.alike hK, ⟨fun i j x y hx hy _ => ?_, fun _ _ _ => trivial⟩, hN.go hW⟩⟩ rfl rfl hl.1 hstack (lv_room hst) hdg ⟨by rw [hRc]; exact hcs.1, by rw [hRs]; exact hcs.2⟩) hP hD hS hF kk
  · obtain ⟨q0, q1, qP, qK, qD, qN⟩ := q
    exact ⟨q0, q1, qP, va_K.moved (u := U) (U := U.calling g mk a) (Vm.Alike.refl U.vm) qK, qD, qN.blind rfl⟩
  · have h1 := (List.getElem?_eq_some_iff.mp hx).1
    have h2 := (List.getElem?_eq_some_iff.mp hy).1
    simp at h1 h2
    omega
end KNI

set_option maxHeartbeats 4000000 in
set_option maxRecDepth 100000 in
theorem whole_of (Rel : Nat → MS → MS → MS → MS → MS → MS → MS → MS → (Nat → MS) → (Nat → MS) → MS → Prop) (hSim : Sim Rel) (hmono : ∀ k σP σL σG σR σT σC σA σK ω ι σ, Rel k σP σL σG σR σT σC σA σK ω ι σ → Rel (k + 1) σP σL σG σR σT σC σA σK ω ι σ) (h0 : Rel 0 s0 s0 s0 s0 s0 s0C s0 s0 (fun _ => s0W) (fun _ => s0) s0M) {p : Program} {e : Env} {s : State} {m : MethodId} {below : List Frame} {meth : Method} {c : Code} (l : Launch) {b L : Nat} {xs : Nat → Int32} (hL : L ≤ 3072) (C0 : lw_At p s m meth c b L xs) : W p l e room_1 s m #[Value.ref b] below meth c s.heap [] 0 0 (lw_Z below #[Value.ref b] s) (entryFrame m ([Value.ref b] : List Value).toArray 4) := by
  obtain ⟨hx, hb, hr, hml, hown, hts, hX, hbl, hlocks, hgv⟩ := id C0
  have hA : ∀ q : Nat, s.heap.size ≤ q → (fun q : Nat => s.heap.size ≤ q) q := fun _ h => h
  have hbA : ¬ (fun q : Nat => s.heap.size ≤ q) b := Nat.not_le.mpr hbl
  obtain ⟨t, hZ⟩ := zz_start hts hgv
  have hN := nn_start hts
  obtain ⟨D, cI, cB, cR, cM, cJ, cZ, hKC, hKM⟩ := kn_start hts
  have S : CallFix p m c cL_law 4 s #[Value.ref b] wsL_law RL := ⟨hx, hb, hml, hown, fun w h => hts w (wsL_law_in w h)⟩
  have hS : va_S (fun q : Nat => s.heap.size ≤ q) s.heap s.heap [] := va_S.rf
  have hP : va_P D vwCl [] s.heap := fun k q h => by simp at h
  have hD : va_D (fun q : Nat => s.heap.size ≤ q) [] := ⟨fun i j p q h => by simp at h, fun k q h => by simp at h⟩
  have hl := lv_entry ([.ref b]) (n := 4) (Nat.le_of_ble_eq_true rfl)
  rw [lg_entry_eq]
  generalize (lg_sl ([.ref b]) ++ List.replicate (4 - (lg_sl ([.ref b])).length) Slot.unset).toArray = ls at hl ⊢
  have hl : lv_has ls 4 [(0, .ref b)] := hl
  refine va_new (ci := 7) (fs := [.null, .null, .null, .null, .null, .null, .null, .null, .null, .int 0, .int 0]) (C := RX8) (T := TX8) (N := 11) hx hb hts wsL_in_X8 tyX8 tyX8_ok hown (hts (.classLink RL 7 RX8) (by decide +kernel)) (hts (.instantiable RX8 11) (by decide +kernel)) (hts (.initialized RX8) (by decide +kernel)) hKC hP hD hS hA rfl (fun j hj => by rcases (show (j = 0 ∨ j = 1 ∨ j = 2 ∨ j = 3 ∨ j = 4 ∨ j = 5 ∨ j = 6 ∨ j = 7 ∨ j = 8 ∨ j = 9 ∨ j = 10) by omega) with rfl | rfl | rfl | rfl | rfl | rfl | rfl | rfl | rfl | rfl | rfl <;> rfl) (Nat.le_of_ble_eq_true rfl) (Nat.le_of_ble_eq_true rfl) dL_law_0 (fun q0 H hP hD hS => ?_)
  refine lv_dup hx hb dL_law_3 rfl ?_
  refine kn_i (wr := []) (Rf := 2048) (Rl := 84000) (Rc := 600000) (Rs := 7302250) S rfl rfl rfl rfl hKC hA hN hP hD hS hl [.ref q0] (kP_init l D cI cB cR cM cJ q0) ggL_law_X8_init rfl (hts (.initialized RX8) (by decide +kernel)) (hts (.methodLink RL 9 yX8_init) (by decide +kernel)) (hts (.instanceMethod yX8_init) (by decide +kernel)) (by decide +kernel) rfl ⟨by decide, by decide⟩ ⟨by decide, by decide⟩ rfl (Nat.le_of_ble_eq_true rfl) dL_law_4 (fun w1 H locs hX1 hP hD hS => ?_)
  obtain ⟨uP, uL, uG, uR, uT, uC, uA, uK, uW, uI, hq0, rfl⟩ := hX1
  rw [← hq0]
  rw [List.nil_append] at hP hD
  refine lv_astore_n (lv' := [(1, .ref (uP 0)), (0, .ref b)]) hx hb dL_law_7 rfl hl (by decide) rfl (fun ls hl => ?_)
  refine va_new (ci := 8) (fs := [.int 0, .int 0, .null, .null, .null, .null, .null, .int 0, .null, .int 0, .null, .int 0, .int 0, .int 0, .int 0, .int 0, .int 0, .int 0, .int 0, .int 0, .null, .null, .null, .null, .null, .int 0]) (C := RX9) (T := TX9) (N := 26) hx hb hts wsL_in_X9 tyX9 tyX9_ok hown (hts (.classLink RL 10 RX9) (by decide +kernel)) (hts (.instantiable RX9 26) (by decide +kernel)) (hts (.initialized RX9) (by decide +kernel)) hKM hP hD hS hA rfl (fun j hj => by rcases (show (j = 0 ∨ j = 1 ∨ j = 2 ∨ j = 3 ∨ j = 4 ∨ j = 5 ∨ j = 6 ∨ j = 7 ∨ j = 8 ∨ j = 9 ∨ j = 10 ∨ j = 11 ∨ j = 12 ∨ j = 13 ∨ j = 14 ∨ j = 15 ∨ j = 16 ∨ j = 17 ∨ j = 18 ∨ j = 19 ∨ j = 20 ∨ j = 21 ∨ j = 22 ∨ j = 23 ∨ j = 24 ∨ j = 25) by omega) with rfl | rfl | rfl | rfl | rfl | rfl | rfl | rfl | rfl | rfl | rfl | rfl | rfl | rfl | rfl | rfl | rfl | rfl | rfl | rfl | rfl | rfl | rfl | rfl | rfl | rfl <;> rfl) (Nat.le_of_ble_eq_true rfl) (Nat.le_of_ble_eq_true rfl) dL_law_8 (fun q1 H hP hD hS => ?_)
  refine lv_dup hx hb dL_law_11 rfl ?_
  refine kn_i (wr := (pw uP uL uG uR uT uC uA uK uW uI cI cB cR cM cJ s0 s0 s0 s0 s0 s0C s0 s0 (fun _ => s0W) (fun _ => s0))) (Rf := 2048) (Rl := 84000) (Rc := 600000) (Rs := 7302250) S rfl rfl rfl rfl hKM hA hN hP hD hS hl [.ref q1] (kM_init l D cI cZ q1) ggL_law_X9_init rfl (hts (.initialized RX9) (by decide +kernel)) (hts (.methodLink RL 12 yX9_init) (by decide +kernel)) (hts (.instanceMethod yX9_init) (by decide +kernel)) (by decide +kernel) rfl ⟨by decide, by decide⟩ ⟨by decide, by decide⟩ rfl (Nat.le_of_ble_eq_true rfl) dL_law_12 (fun w1 H locs hX1 hP hD hS => ?_)
  obtain ⟨uM, hq1, rfl⟩ := hX1
  rw [← hq1]
  refine lv_astore_n (lv' := [(2, .ref (uM 0)), (1, .ref (uP 0)), (0, .ref b)]) hx hb dL_law_15 rfl hl (by decide) rfl (fun ls hl => ?_)
  refine lv_iconst (v := 0) hx hb dL_law_16 (by decide) ?_
  refine lv_istore_n (lv' := [(3, .int (nI 0)), (2, .ref (uM 0)), (1, .ref (uP 0)), (0, .ref b)]) hx hb dL_law_17 rfl hl (by decide) rfl (fun ls hl => ?_)
  refine W.cs (cells' := 86) (slots' := 8016) (by decide) (by decide) ?_
  exact law_loop Rel hSim.1 hSim.2.1 hSim.2.2.1 hSim.2.2.2.1 hSim.2.2.2.2.1 hSim.2.2.2.2.2.1 hSim.2.2.2.2.2.2.1 hSim.2.2.2.2.2.2.2.1 hSim.2.2.2.2.2.2.2.2.1 hSim.2.2.2.2.2.2.2.2.2.1 hSim.2.2.2.2.2.2.2.2.2.2.1 hSim.2.2.2.2.2.2.2.2.2.2.2.1 hSim.2.2.2.2.2.2.2.2.2.2.2.2.1 hSim.2.2.2.2.2.2.2.2.2.2.2.2.2.1 hSim.2.2.2.2.2.2.2.2.2.2.2.2.2.2.1 hSim.2.2.2.2.2.2.2.2.2.2.2.2.2.2.2.1 hSim.2.2.2.2.2.2.2.2.2.2.2.2.2.2.2.2.1 hSim.2.2.2.2.2.2.2.2.2.2.2.2.2.2.2.2.2.1 hSim.2.2.2.2.2.2.2.2.2.2.2.2.2.2.2.2.2.2.1 hSim.2.2.2.2.2.2.2.2.2.2.2.2.2.2.2.2.2.2.2.1 hSim.2.2.2.2.2.2.2.2.2.2.2.2.2.2.2.2.2.2.2.2.1 hSim.2.2.2.2.2.2.2.2.2.2.2.2.2.2.2.2.2.2.2.2.2.1 hSim.2.2.2.2.2.2.2.2.2.2.2.2.2.2.2.2.2.2.2.2.2.2.1 hSim.2.2.2.2.2.2.2.2.2.2.2.2.2.2.2.2.2.2.2.2.2.2.2.1 hSim.2.2.2.2.2.2.2.2.2.2.2.2.2.2.2.2.2.2.2.2.2.2.2.2.1 hSim.2.2.2.2.2.2.2.2.2.2.2.2.2.2.2.2.2.2.2.2.2.2.2.2.2.1 hSim.2.2.2.2.2.2.2.2.2.2.2.2.2.2.2.2.2.2.2.2.2.2.2.2.2.2.1 hSim.2.2.2.2.2.2.2.2.2.2.2.2.2.2.2.2.2.2.2.2.2.2.2.2.2.2.2.1 hSim.2.2.2.2.2.2.2.2.2.2.2.2.2.2.2.2.2.2.2.2.2.2.2.2.2.2.2.2.1 hSim.2.2.2.2.2.2.2.2.2.2.2.2.2.2.2.2.2.2.2.2.2.2.2.2.2.2.2.2.2 hmono C0 hKC hKM hZ hL uM L 0 0 rfl (by omega) uP uL uG uR uT uC uA uK uW uI s0 s0 s0 s0 s0 s0C s0 s0 (fun _ => s0W) (fun _ => s0) s0M ls H locs h0 (lv_sub hl [3, 2, 1, 0] rfl) hP hD hS (by omega)
