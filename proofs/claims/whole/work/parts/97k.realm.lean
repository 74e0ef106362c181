/-! PURE: realm: the call -/
theorem byte_u {B : Int32} (h1 : -128 ≤ B) (h2 : B ≤ 127) : (B.toBitVec.toNat % 256 < 128 → B = nI (B.toBitVec.toNat % 256)) ∧ (128 ≤ B.toBitVec.toNat % 256 → B < 0) := by
  rw [Int32.le_iff_toInt_le] at h1 h2
  have e1 : (-128 : Int32).toInt = -128 := by decide
  have e2 : (127 : Int32).toInt = 127 := by decide
  have e3 : (0 : Int32).toInt = 0 := by decide
  have e : B.toInt = if 2 * B.toBitVec.toNat < 2 ^ 32 then (B.toBitVec.toNat : Int) else (B.toBitVec.toNat : Int) - (2 ^ 32 : Nat) := BitVec.toInt_eq_toNat_cond B.toBitVec
  have hl : B.toBitVec.toNat < 2 ^ 32 := B.toBitVec.isLt
  generalize hn : B.toBitVec.toNat = n at e hl
  by_cases z : 2 * n < 2 ^ 32
  · rw [if_pos z] at e
    have hlt : n ≤ 127 := by omega
    refine ⟨fun _ => ?_, fun q => by omega⟩
    apply Int32.toInt_inj.mp
    rw [nI_toInt (by omega), e]
    omega
  · rw [if_neg z] at e
    refine ⟨fun q => by omega, fun _ => ?_⟩
    rw [Int32.lt_iff_toInt_lt, e, e3]
    omega
theorem copy225 (σ : MS) (n : Nat) : ∀ (d c : Nat), c + d = 147 → FM_realm_225 (n + d + 1) (setR σ 5 (va_cpy (σ.2 6) (σ.2 5) 0 0 c)) (nI c) = some ((setR σ 5 (va_cpy (σ.2 6) (σ.2 5) 0 0 147)).2 5 3, setR σ 5 (va_cpy (σ.2 6) (σ.2 5) 0 0 147)) := by
  intro d
  induction d with
  | zero =>
    intro c hc
    have hc : c = 147 := hc
    subst hc
    rw [FM_realm_225, if_pos (show (147 : Int32) ≤ nI 147 by decide), gd_t (by decide), show Int32.toNatClampNeg 3 = 3 from by decide]
  | succ d ih =>
    intro c hc
    have e := cpy_step (σ.2 6) (σ.2 5) 0 0 c
    rw [Nat.zero_add] at e
    show FM_realm_225 ((n + d + 1) + 1) _ _ = _
    rw [FM_realm_225, if_neg (show ¬ (147 : Int32) ≤ nI c from nI_ge (b := 147) (by omega) (by decide))]
    simp only [nm]
    rw [gd_nI (N := 147) (by omega) (by decide), gd_nI (N := 147) (by omega) (by decide), nI_clamp (by omega), setR_gne σ _ (show 6 ≠ 5 by decide), setA_R, setR_get, setR_setR, e, nI_1]
    exact ih (c + 1) (by omega)
/-- the reference's state as the reading begins -/
def sb (σ : MS) (m : Nat) : MS := setF (setF (setF (setF (setF σ 0 0) 13 (nI m)) 11 0) 14 0) 18 0
theorem sb_1 (σ : MS) (m : Nat) {i : Nat} (h0 : i ≠ 0) (h1 : i ≠ 13) (h2 : i ≠ 11) (h3 : i ≠ 14) (h4 : i ≠ 18) : (sb σ m).1 i = σ.1 i := (va_up_ne _ _ h4).trans ((va_up_ne _ _ h3).trans ((va_up_ne _ _ h2).trans ((va_up_ne _ _ h1).trans (va_up_ne _ _ h0))))
theorem Rel.rfail {k m : Nat} {σP σL σG σG' σR σR' σT σT' σC σA σK : MS} {ω ι : Nat → MS} {σ σ9 : MS} (h : Rel k σP σL σG σR σT σC σA σK ω ι σ) (hF : FrP (sb σ m) σ9) (x : Int32) : Rel (k + 1) (setF σP 10 x) σL σG' σR' (setF σT' 1 0) σC σA σK ω ι (setF σ9 12 x) := by
  obtain ⟨q1, q2⟩ := hF
  have hFf : ∀ i, i ≠ 0 → i ≠ 11 → i ≠ 12 → i ≠ 13 → i ≠ 14 → i ≠ 15 → i ≠ 16 → i ≠ 17 → i ≠ 18 → i ≠ 19 → (setF σ9 12 x).1 i = σ.1 i := fun i h0 h11 h12 h13 h14 h15 h16 h17 h18 h19 => (va_up_ne _ _ h12).trans ((q1 i h14 h15 h16 h17 h18 h19).trans (sb_1 σ m h0 h13 h11 h14 h18))
  have hA : ∀ i, i ≠ 6 → (setF σ9 12 x).2 i = σ.2 i := q2
  have h11 : (setF σ9 12 x).1 11 = 0 := q1 11 (by decide) (by decide) (by decide) (by decide) (by decide) (by decide)
  obtain ⟨⟨h1, h2⟩, h3, h9, ⟨h4, h5⟩, h6, h7, h8⟩ := Rel.mono _ _ _ _ _ _ _ _ _ _ _ _ h
  refine ⟨⟨?_, rfl⟩, ?_, ?_, ⟨?_, ?_⟩, ?_, ?_, ?_⟩
  · rw [hFf 1 (by decide) (by decide) (by decide) (by decide) (by decide) (by decide) (by decide) (by decide) (by decide) (by decide)]; exact h1
  · rw [hA 2 (by decide), hA 3 (by decide), hA 4 (by decide)]; exact h3
  · rw [h11]
    exact ⟨rfl, by decide, by decide, fun j hj hl => absurd hl (nI_pos (by omega))⟩
  · rw [hFf 7 (by decide) (by decide) (by decide) (by decide) (by decide) (by decide) (by decide) (by decide) (by decide) (by decide)]; exact h4
  · rw [hA 5 (by decide)]; exact h5
  · rw [hFf 9 (by decide) (by decide) (by decide) (by decide) (by decide) (by decide) (by decide) (by decide) (by decide) (by decide), hA 8 (by decide)]; exact h6
  · rw [hA 22 (by decide), hA 23 (by decide)]; exact h7
  · rw [hFf 25 (by decide) (by decide) (by decide) (by decide) (by decide) (by decide) (by decide) (by decide) (by decide) (by decide), hA 24 (by decide)]; exact h8
theorem i1_le {x : Nat} (h : 1 ≤ x) (hx : x < 2 ^ 31) : (1 : Int32) ≤ nI x := nI_le (a := 1) h hx
theorem RReal.read {k r h c : Nat} {w : Nat → Nat → Nat} {σG σG' : MS} {g g' : Nat → Int32} (D : DR r h c σG g) (hw : WR w) (hC : MC w σG' 8 0 0) (hS : S0 σG σG') (hM : ∀ i j, i < 8 → j < 8 → g' (5 + 8 * i + j) = nI (cap (mx w 8 0 0 i j))) (hg : ∀ j, j < 147 → ¬ (5 ≤ j ∧ j < 69) → g' j = g j) : RReal k 1 (σG'.1 5) (σG'.1 6) (σG'.1 7) (σG'.2 0) (σG'.2 1) (σG'.2 2) (σG'.2 3) g' := by
  obtain ⟨⟨d1, d2, d3, d4⟩, ⟨e1, e2⟩, ⟨f1, f2, f3⟩, ⟨g1, g2, g3⟩, ⟨h1, h2⟩, -, ht, hc, hz⟩ := D
  obtain ⟨v1, v2, v3, -⟩ := fw_inv hw 8 (by decide)
  have hmx : ∀ i j, mx w 8 0 0 i j = fw w 8 i j := fun i j => by unfold mx; rw [if_neg (by omega)]
  have q0 := hg 0 (by decide) (by decide)
  have q2 := hg 2 (by decide) (by decide)
  have q3 := hg 3 (by decide) (by decide)
  have q4 := hg 4 (by decide) (by decide)
  rw [hS.1, hS.2 1 (by decide), hS.2 2 (by decide), hS.2 3 (by decide)]
  refine ⟨Or.inr rfl, ⟨by rw [q0]; exact d2, by rw [q2, f1, f2], by rw [q3, g1, g2], by rw [q4, h1, h2]⟩, ⟨by rw [d2]; exact d3, by rw [d2]; exact d4, by rw [f1]; exact nI_pos' (by omega), by rw [f1]; exact nI_le (b := 6) f3 (by decide), by rw [g1]; exact nI_pos' (by omega), by rw [g1]; exact nI_le (b := 12) g3 (by decide), by rw [q4, h1]; decide, by rw [q4, h1]; decide⟩, fun z => absurd z (by decide), fun _ a b ha hb => ?_, fun i hi hl => ?_, fun j hj hl => ?_⟩
  · have hf := fw_fin hw (k := 8) (by decide) ha hb
    rw [hC a b ha hb, hC b a hb ha, hM a b ha hb, hmx, hmx, v2 b a hb ha]
    refine ⟨?_, rfl, fun hn => i1_le (v3 a b ha hb hn) (by omega)⟩
    rcases hf with z | z
    · rw [z]
      exact Or.inl ⟨rfl, rfl⟩
    · rw [cap_low (by omega)]
      exact Or.inr ⟨rfl, nI_pos' (by omega), nI_lt (b := 1000) (by omega) (by decide)⟩
  · rw [f1] at hl
    have hih := (nI_ltI (by omega) (by omega)).mp hl
    obtain ⟨t, t1, t7, y1, y2⟩ := ht i hih
    rw [hg (69 + i) (by omega) (by omega), y1, y2]
    exact ⟨rfl, i1_le t1 (by omega), nI_le (b := 7) t7 (by decide)⟩
  · rw [g1] at hl
    have hjc := (nI_ltI (by omega) (by omega)).mp hl
    obtain ⟨kk, q, a, k1, k5, hq, ha, y1, y2, y3, y4, y5, y6⟩ := hc j hjc
    have z2 := hz j hj 2 (by decide) (by decide)
    have z3 := hz j hj 3 (by decide) (by decide)
    have z4 := hz j hj 4 (by decide) (by decide)
    refine ⟨⟨by rw [hg (75 + 6 * j) (by omega) (by omega), y1, y2], by rw [y1]; exact i1_le k1 (by omega), by rw [y1]; exact nI_le (b := 5) k5 (by decide)⟩, fun f hf => ?_, ⟨by rw [y3]; exact nI_pos' (by omega), by rw [y3, f1]; exact nI_lt hq (by omega)⟩, ⟨by rw [y5]; exact nI_pos' (by omega), by rw [y5, q4, h1]; exact nI_le (b := 400) ha (by decide)⟩, Or.inl z4.1, Or.inl ⟨z2.1, z3.1⟩⟩
    rw [hg (76 + 6 * j + f) (by omega) (by omega)]
    rcases (show f = 0 ∨ f = 1 ∨ f = 2 ∨ f = 3 ∨ f = 4 by omega) with rfl | rfl | rfl | rfl | rfl
    · rw [Nat.add_zero, Nat.add_zero, y3, y4]
    · rw [y5, show 76 + 6 * j + 1 = 77 + 6 * j from by omega, y6]
    · rw [z2.1, z2.2]
    · rw [z3.1, z3.2]
    · rw [z4.1, z4.2]
theorem sim_realm : Sim_realm Rel := by
  intro k σP σL σG σR σT σC σA σK ω ι σ hk h
  obtain ⟨t1, t2, t3, t4⟩ := h.2.2.1
  obtain ⟨m, hm, em⟩ := nI_of2 (x := σ.1 11) (M := 500) (n := 500) (by decide) (Int32.not_lt.mpr t2) t3
  have hT0 : TPu m (fun j => (σT.2 0 j).toBitVec.toNat % 256) (setF σT 5 0) (sb σ m) := by
    refine ⟨hm, t1.trans em, rfl, fun j hj => ?_⟩
    obtain ⟨y1, y2, y3⟩ := t4 j (by omega) (by rw [em]; exact nI_lt hj (by omega))
    refine ⟨Nat.mod_lt _ (by decide), ?_, (byte_u y2 y3).1, (byte_u y2 y3).2⟩
    show σ.2 10 j = _
    rw [y1]
    exact pk_and (σT.2 0 j) 8 (by decide)
  generalize (fun j => (σT.2 0 j).toBitVec.toNat % 256) = u at hT0
  obtain ⟨σT1, σ1, s, e, y, b1, b2, b3, b4, b5⟩ := tok_step hT0 (i := 0) (by omega) rfl rfl
  have J1 : JG m u (sb σ m) σT1 σ1 := ⟨hT0.fr b4 b5, ⟨s, e, y, b3⟩, b5.1 18 (by decide) (by decide) (by decide) (by decide), b5.p⟩
  obtain ⟨σG2, c1, c2, c3, c4⟩ := p_clear σG
  obtain ⟨σ3, d1, d2, d3⟩ := fill_loop 4852 147 0 σ1 (by decide) (fun j hj => absurd hj (Nat.not_lt_zero j))
  obtain ⟨σ5, e1, e2, e3, e4⟩ := diag_loop 4991 8 0 σ3 (by decide) (fun j hj q => by rw [d2 j hj, if_pos q, if_neg (by omega)]) (fun j hj q => by rw [d2 j hj, if_neg q])
  have J5 : JG m u (sb σ m) σT1 σ5 := J1.s6 (d3.tr e4)
  have D5 : DR 0 0 0 σG2 (σ5.2 6) := DR_0 c2 c3 c4 e2 e3
  have hM : FM_realm σ = (Option.bind (FM_name σ5) fun (r11 : Int64) => if (lg_cmp r11 7102839) = 0 then (FM_realm_91 σ5 1) else (FM_realm_91 σ5 0)) := by
    unfold FM_realm FM_begin
    simp only [nm]
    rw [show (setF σ 0 0).1 11 = nI m from em, show FM_next (setF (setF (setF (setF (setF σ 0 0) 13 (nI m)) 11 0) 14 0) 18 0) = _ from b2, Option.bind_some, Option.bind_some, show FM_realm_11 fuelN σ1 0 = _ from d1]
    exact e1
  have hL0 : ∀ X, (bd4 (FR_readLaw σR σT1 σG2) fun (r5 : Int32) (σ6 : MS) (σ7 : MS) (σ8 : MS) => if r5 = 0 then (some ((0 : Int32), σ6, σ7, σ8)) else (bd4 (FR_readRoads σ6 σ7 σ8) fun (r10 : Int32) (σ11 : MS) (σ12 : MS) (σ13 : MS) => if r10 = 0 then (some (0, σ11, σ12, σ13)) else (bd4 (FR_readHolders σ11 σ12 σ13) fun (r15 : Int32) (σ16 : MS) (σ17 : MS) (σ18 : MS) => if r15 = 0 then (some (0, σ16, σ17, σ18)) else (bd4 (FR_readCoins σ16 σ17 σ18) fun (r20 : Int32) (σ21 : MS) (σ22 : MS) (σ23 : MS) => if r20 = 0 then (some (0, σ21, σ22, σ23)) else (if (σ22.1 2) = 0 then (Option.bind (FL_shortenWays σ23) fun (σ27 : MS) => nm (setF σ27 4 1) fun (σ28 : MS) => some (1, σ21, σ22, σ28)) else (bd2 (FR_faulty σ21 σ22 1) fun (r29 : Int32) (σ30 : MS) => gd (r29 = 0 ∨ r29 = 1) (some (r29, σ30, σ22, σ23)))))))) = X → FR_read σR σT σG = X := by
    intro X hX
    unfold FR_read FT_rewind
    simp only [nm] at hX ⊢
    rw [c1, Option.bind_some, b1, Option.bind_some, Option.bind_some]
    exact hX
  have fail : ∀ (σR' σT' σG' σ' : MS), FR_read σR σT σG = some (0, σR', σT', σG') → FM_realm σ = some (-1000100 - σR'.1 3, setF σ' 12 (σR'.1 2)) → JB m u (sb σ m) σR' σ' → ∃ (rr : Int32) (σR1 σT1 σG1 σT2 : MS) (r : Int32) (σ' : MS), FR_read σR σT σG = some (rr, σR1, σT1, σG1) ∧ FT_empty σT1 = some σT2 ∧ FM_realm σ = some (r, σ') ∧ ((rr = 0 ∧ r = -1000100 - σR1.1 3 ∧ Rel (k + 1) (setF σP 10 (σR1.1 2)) σL σG1 σR1 σT2 σC σA σK ω ι σ') ∨ (¬ rr = 0 ∧ r = σG1.1 7 ∧ ∃ σK1, FK_forgetAll σK = some σK1 ∧ Rel (k + 1) σP σG1 σL σR1 σT2 σC σA σK1 ω ι σ')) := by
    intro σR' σT' σG' σ' f1 f2 f3
    obtain ⟨f, -, -, -, -, -, -, hF⟩ := f3
    exact ⟨0, σR', σT', σG', setF σT' 1 0, _, _, f1, rfl, f2, Or.inl ⟨rfl, rfl, h.rfail hF _⟩⟩
  rcases J5.law σR D5 with ⟨σR6, σT6, σG6, σ6, l1, l2, l3, l4⟩ | ⟨σR6, σT6, σG6, σ6, l1, l2, l3⟩
  · rcases roads_loop 4985 4984 14 0 σR6 σT6 σG6 σ6 (by decide) l3 l4 with ⟨r7, σR7, σT7, σG7, σ7, m1, m2, m3, m4⟩ | ⟨σR7, σT7, σG7, σ7, m1, m2, m3⟩
    · rcases holders_loop 4993 4992 6 0 σR7 σT7 σG7 σ7 (by decide) m3 m4 with ⟨h8, σR8, σT8, σG8, σ8, o1, o2, o3, o4⟩ | ⟨σR8, σT8, σG8, σ8, o1, o2, o3⟩
      · rcases coins_loop 4987 4986 12 0 σR8 σT8 σG8 σ8 (by decide) o3 o4 with ⟨c9, σR9, σT9, σG9, σ9, p1, p2, p3, p4⟩ | ⟨σR9, σT9, σG9, σ9, p1, p2, p3⟩
        · have hL1 : ∀ X, (if (σT9.1 2) = 0 then (Option.bind (FL_shortenWays σG9) fun (σ27 : MS) => nm (setF σ27 4 1) fun (σ28 : MS) => some ((1 : Int32), σR9, σT9, σ28)) else (bd2 (FR_faulty σR9 σT9 1) fun (r29 : Int32) (σ30 : MS) => gd (r29 = 0 ∨ r29 = 1) (some (r29, σ30, σT9, σG9)))) = X → FR_read σR σT σG = X := by
            intro X hX
            refine hL0 X ?_
            rw [l1, bd4_s, if_neg one_ne_zero32, show FR_readRoads σR6 σT6 σG6 = _ from m1, bd4_s, if_neg one_ne_zero32, show FR_readHolders σR7 σT7 σG7 = _ from o1, bd4_s, if_neg one_ne_zero32, show FR_readCoins σR8 σT8 σG8 = _ from p1, bd4_s, if_neg one_ne_zero32]
            exact hX
          have hM1 : FM_realm σ = (if (σ9.1 15) = 1 then (FM_realm_186 σ9) else (Option.bind (FM_bad σ9 1) fun (σ37 : MS) => FM_realm_186 σ37)) := hM.trans (l2.trans (m2.trans (o2.trans p2)))
          obtain ⟨-, -, s3, -⟩ := p3.sort
          by_cases z : σT9.1 2 = 0
          · obtain ⟨w, w1, w2⟩ := p4.2.2.2.2.2.1
            obtain ⟨σG10, x1, x2, x3⟩ := sw2 w1 4991 8 0 σG9 (by decide) (fun i j hi hj => by rw [mx_0]; exact (w2 i j hi hj).1)
            obtain ⟨σ10, y1, y2, y3, y4⟩ := lf2 w1 4991 8 0 (setF (setF σ9 7 1) 9 0) (by decide) (fun i j hi hj => by rw [mx_0]; exact (w2 i j hi hj).2)
            have hcp := copy225 σ10 4852 147 0 (by decide)
            rw [cpy_0, setR_same σ10 5 _ rfl] at hcp
            have hF := p3.2.2.2
            obtain ⟨q1, q2⟩ := hF
            have g5 : ∀ j, j < 147 → (setR σ10 5 (va_cpy (σ10.2 6) (σ10.2 5) 0 0 147)).2 5 j = σ10.2 6 j := fun j hj => by
              rw [setR_get]
              have := cpy_in (σ10.2 6) (σ10.2 5) (sp := 0) (dp := 0) hj
              rw [Nat.zero_add] at this
              exact this
            have hR : RReal (k + 1) 1 (σG10.1 5) (σG10.1 6) (σG10.1 7) (σG10.2 0) (σG10.2 1) (σG10.2 2) (σG10.2 3) ((setR σ10 5 (va_cpy (σ10.2 6) (σ10.2 5) 0 0 147)).2 5) := RReal.read p4 w1 x2 x3 (fun i j hi hj => by rw [g5 _ (by omega)]; exact y2 i j hi hj) (fun j hj hn => by rw [g5 j hj, y4 j hn]; rfl)
            have hFf : ∀ i, i ≠ 0 → i ≠ 7 → i ≠ 9 → i ≠ 11 → i ≠ 13 → i ≠ 14 → i ≠ 15 → i ≠ 16 → i ≠ 17 → i ≠ 18 → i ≠ 19 → (setR σ10 5 (va_cpy (σ10.2 6) (σ10.2 5) 0 0 147)).1 i = σ.1 i := fun i h0 h7 h9 h11 h13 h14 h15 h16 h17 h18 h19 => by
              show σ10.1 i = _
              rw [y3.1]
              exact (va_up_ne _ _ h9).trans ((va_up_ne _ _ h7).trans ((q1 i h14 h15 h16 h17 h18 h19).trans (sb_1 σ m h0 h13 h11 h14 h18)))
            have hA : ∀ i, i ≠ 5 → i ≠ 6 → (setR σ10 5 (va_cpy (σ10.2 6) (σ10.2 5) 0 0 147)).2 i = σ.2 i := fun i h5 h6 => by
              rw [setR_gne σ10 _ h5, y3.2 i h6]
              exact q2 i h6
            have e7 : (setR σ10 5 (va_cpy (σ10.2 6) (σ10.2 5) 0 0 147)).1 7 = 1 := by show σ10.1 7 = 1; rw [y3.1]; rfl
            have e9 : (setR σ10 5 (va_cpy (σ10.2 6) (σ10.2 5) 0 0 147)).1 9 = 0 := by show σ10.1 9 = 0; rw [y3.1]; rfl
            have e11 : (setR σ10 5 (va_cpy (σ10.2 6) (σ10.2 5) 0 0 147)).1 11 = 0 := by
              show σ10.1 11 = 0
              rw [y3.1]
              exact q1 11 (by decide) (by decide) (by decide) (by decide) (by decide) (by decide)
            refine ⟨1, σR9, σT9, setF σG10 4 1, setF σT9 1 0, (setR σ10 5 (va_cpy (σ10.2 6) (σ10.2 5) 0 0 147)).2 5 3, setR σ10 5 (va_cpy (σ10.2 6) (σ10.2 5) 0 0 147), hL1 _ ?_, rfl, ?_, Or.inr ⟨one_ne_zero32, ?_, _, rfl, ?_⟩⟩
            · rw [if_pos z, FL_shortenWays, show FL_shortenWays_2 fuelN σG9 0 = _ from x1]
              rfl
            · rw [hM1, if_pos (s3.mp z), FM_realm_186, p3.2.2.1, if_pos (by decide)]
              simp only [nm]
              rw [FM_layFar, show FM_layFar_2 fuelN (setF (setF σ9 7 1) 9 0) 0 = _ from y1, Option.bind_some]
              exact hcp
            · show _ = σG10.1 7
              rw [← hR.2.1.2.2.1]
            · obtain ⟨⟨h1, h2⟩, h3, -, -, -, h7, h8⟩ := Rel.mono _ _ _ _ _ _ _ _ _ _ _ _ h
              refine ⟨⟨?_, ?_⟩, ?_, ?_, ⟨e7.symm, hR⟩, ?_, ?_, ?_⟩
              · rw [hFf 1 (by decide) (by decide) (by decide) (by decide) (by decide) (by decide) (by decide) (by decide) (by decide) (by decide) (by decide)]; exact h1
              · rw [hFf 12 (by decide) (by decide) (by decide) (by decide) (by decide) (by decide) (by decide) (by decide) (by decide) (by decide) (by decide)]; exact h2
              · rw [hA 2 (by decide) (by decide), hA 3 (by decide) (by decide), hA 4 (by decide) (by decide)]; exact h3
              · rw [e11]
                exact ⟨rfl, by decide, by decide, fun j hj hl => absurd hl (nI_pos (by omega))⟩
              · exact ⟨0, 0, by decide, by decide, rfl, e9, rfl, Or.inl rfl, fun i hi => absurd hi (Nat.not_lt_zero i)⟩
              · rw [hA 22 (by decide) (by decide), hA 23 (by decide) (by decide)]
                intro i hi
                obtain ⟨w3, w4⟩ := h7 i hi
                exact ⟨w3, w4.imp id (fun q => ⟨q.1, rfl, q.2.2⟩)⟩
              · rw [hFf 25 (by decide) (by decide) (by decide) (by decide) (by decide) (by decide) (by decide) (by decide) (by decide) (by decide) (by decide), hA 24 (by decide) (by decide)]; exact h8
          · obtain ⟨σR10, σ10, x1, x2, x3, -, -⟩ := p3.fail σR9 (f := 1) (by decide) (by decide)
            refine fail σR10 σT9 σG9 σ10 (hL1 _ ?_) ?_ x3
            · rw [if_neg z, show FR_faulty σR9 σT9 1 = _ from x2, bd2_s, gd_t (Or.inl rfl)]
            · rw [hM1, if_neg (fun q => z (s3.mpr q)), show FM_bad σ9 1 = _ from x1, Option.bind_some, x3.e186]
        · refine fail σR9 σT9 σG9 σ9 (hL0 _ ?_) (hM.trans (l2.trans (m2.trans (o2.trans p2)))) p3
          rw [l1, bd4_s, if_neg one_ne_zero32, show FR_readRoads σR6 σT6 σG6 = _ from m1, bd4_s, if_neg one_ne_zero32, show FR_readHolders σR7 σT7 σG7 = _ from o1, bd4_s, if_neg one_ne_zero32, show FR_readCoins σR8 σT8 σG8 = _ from p1]
          rfl
      · refine fail σR8 σT8 σG8 σ8 (hL0 _ ?_) (hM.trans (l2.trans (m2.trans o2))) o3
        rw [l1, bd4_s, if_neg one_ne_zero32, show FR_readRoads σR6 σT6 σG6 = _ from m1, bd4_s, if_neg one_ne_zero32, show FR_readHolders σR7 σT7 σG7 = _ from o1]
        rfl
    · refine fail σR7 σT7 σG7 σ7 (hL0 _ ?_) (hM.trans (l2.trans m2)) m3
      rw [l1, bd4_s, if_neg one_ne_zero32, show FR_readRoads σR6 σT6 σG6 = _ from m1]
      rfl
  · refine fail σR6 σT6 σG6 σ6 (hL0 _ ?_) (hM.trans (l2.trans (l3.e112 4999))) l3
    rw [l1]
    rfl
