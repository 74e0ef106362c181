/-! PURE: realm: law, roads, holders, coins, read by both -/
theorem zc_v : zc 0 = 7102839 ∧ zc 1 = 1919902052 ∧ zc 2 = 114827769177458 ∧ zc 3 = 1668245870 ∧ zc 4 = 1735355492 ∧ zc 5 = 126896628458866 ∧ zc 6 = 109330278933874 ∧ zc 7 = 112628846781796 ∧ zc 8 = 7302244 := by decide +kernel
section RD
variable {m : Nat} {u : Nat → Nat} {σ0 σT σR σG σ : MS}
theorem JG.law (h : JG m u σ0 σT σ) (σR : MS) (D : DR 0 0 0 σG (σ.2 6)) : (∃ σR' σT' σG' σ', FR_readLaw σR σT σG = some (1, σR', σT', σG') ∧ (Option.bind (FM_name σ) fun (r11 : Int64) => if (lg_cmp r11 7102839) = 0 then (FM_realm_91 σ 1) else (FM_realm_91 σ 0)) = FM_realm_112 fuelN σ' ∧ JG m u σ0 σT' σ' ∧ DR 0 0 0 σG' (σ'.2 6)) ∨ (∃ σR' σT' σG' σ', FR_readLaw σR σT σG = some (0, σR', σT', σG') ∧ (Option.bind (FM_name σ) fun (r11 : Int64) => if (lg_cmp r11 7102839) = 0 then (FM_realm_91 σ 1) else (FM_realm_91 σ 0)) = FM_realm_112 fuelN σ' ∧ JB m u σ0 σR' σ') := by
  obtain ⟨v, n1, n2⟩ := h.name
  rw [n1, Option.bind_some]
  unfold FR_readLaw
  rw [n2 0 (by decide), Option.bind_some, zc_v.1]
  by_cases z : v = 7102839
  · rw [if_pos z, if_neg one_ne_zero32, if_pos ((lg_cmp_eq _ _).mpr z)]
    obtain ⟨σT1, σ1, i1, -, i2, i3, i4⟩ := h.next
    unfold FM_realm_91
    rw [i1, Option.bind_some, i2, Option.bind_some]
    rcases i3.num σR 1 400 with ⟨x, σT2, σ2, x1, x2, x3, -, x5, x6, x7, x8⟩ | ⟨x, σR2, σ2, x5, x6, x7, x8⟩
    · have hx : x ≤ 400 := (nI_leI (a := x) (b := 400) (by omega) (by decide)).mp x3
      rw [x5, x6]
      have D2 : DR 0 0 0 (setF σG 5 (nI x)) ((setA σ2 6 0 (nI x)).2 6) := by
        rw [A6g, x8, i4]
        exact D.leave' hx
      have e6 : bd2 (some (nI x, σ2)) (fun (r18 : Int32) (σ19 : MS) => gd (¬ ((0 : Int32) < 0 ∨ 147 ≤ Int32.toNatClampNeg 0)) (nm (setA σ19 6 (Int32.toNatClampNeg 0) r18) fun (σ21 : MS) => Option.bind (FM_mustEnd σ21) fun (σ23 : MS) => FM_realm_112 fuelN σ23)) = Option.bind (FM_mustEnd (setA σ2 6 0 (nI x))) fun (σ23 : MS) => FM_realm_112 fuelN σ23 := by
        rw [bd2_s, gd_t (by decide)]
        rfl
      rw [e6, bd3_s, if_neg one_ne_zero32, nm_s]
      rcases (x7.A6 0 (nI x)).sign (setF σR 1 (nI x)) with ⟨σT3, σ3, y1, y2, y3, y4⟩ | ⟨σR3, σ3, y1, y2, y3, y4⟩
      · refine Or.inl ⟨setF σR 1 (nI x), σT3, setF σG 5 (nI x), σ3, ?_, by rw [y2]; rfl, y3, by rw [y4]; exact D2⟩
        rw [show (setF σR 1 (nI x)).1 1 = nI x from rfl, y1, bd3_s, gd_t (Or.inr rfl)]
      · refine Or.inr ⟨σR3, σT2, setF σG 5 (nI x), σ3, ?_, by rw [y2]; rfl, y3⟩
        rw [show (setF σR 1 (nI x)).1 1 = nI x from rfl, y1, bd3_s, gd_t (Or.inl rfl)]
    · refine Or.inr ⟨σR2, σT1, σG, setA σ2 6 0 x, ?_, ?_, x7.A6 0 x⟩
      · rw [x5]
        rfl
      · rw [x6, bd2_s, gd_t (by decide), nm_s, show Int32.toNatClampNeg 0 = 0 from by decide, (x7.A6 0 x).end_, Option.bind_some]
  · rw [if_neg z, if_pos rfl, if_neg (fun q => z ((lg_cmp_eq _ _).mp q))]
    obtain ⟨σR1, σ1, i1, i2, i3, -⟩ := h.must0 σR
    refine Or.inr ⟨σR1, σT, σG, setA σ1 6 0 0, ?_, ?_, i3.A6 0 0⟩
    · rw [i2, bd2_s, gd_t (Or.inl rfl)]
    · unfold FM_realm_91
      rw [i1, Option.bind_some, i3.num, bd2_s, gd_t (by decide), nm_s, show Int32.toNatClampNeg 0 = 0 from by decide, (i3.A6 0 0).end_, Option.bind_some]
theorem JB.r43 (h : JB m u σ0 σR σ) (l : Int32) : FM_readRoad_43 σ l = some σ := by
  have hn := h.num
  have he := h.end_
  unfold FM_readRoad_43
  rw [hn, bd2_s, hn, bd2_s, he, Option.bind_some]
  obtain ⟨f, h1, h3, e, -⟩ := h
  rw [e, if_neg (bf_pos h1 h3).1]
theorem p_addRoad (σG : MS) {a b : Nat} (ha : a < 8) (hb : b < 8) (d : Int32) {z : Int32} (hz : (if d < σG.2 0 (8 * a + b) then d else σG.2 0 (8 * a + b)) = z) : FL_addRoad σG (nI a) (nI b) d = some (setA (setA σG 0 (8 * a + b) z) 0 (8 * b + a) z) := by
  unfold FL_addRoad
  have e1 : (nI a * 8 + nI b : Int32) = nI (8 * a + b) := by
    rw [show (8 : Int32) = nI 8 from rfl, pk_mul, nI_add, Nat.mul_comm]
  have e2 : (nI b * 8 + nI a : Int32) = nI (8 * b + a) := by
    rw [show (8 : Int32) = nI 8 from rfl, pk_mul, nI_add, Nat.mul_comm]
  rw [e1, e2, gd_nI (N := 64) (by omega) (by decide), nm_s, gd_nI (N := 64) (by omega) (by decide), nm_s, gd_nI (N := 64) (by omega) (by decide), nm_s, nI_clamp (n := 8 * a + b) (by omega), nI_clamp (n := 8 * b + a) (by omega), hz]
theorem p_104 (σ : MS) {a b r : Nat} (ha : a < 8) (hb : b < 8) (hr : σ.2 6 1 = nI r) (z : Int32) : FM_readRoad_104 σ (nI a) (nI b) z = some (setA (setA (setA σ 6 (5 + 8 * a + b) z) 6 (5 + 8 * b + a) z) 6 1 (nI (r + 1))) := by
  unfold FM_readRoad_104
  have e1 : (5 + 8 * nI a + nI b : Int32) = nI (5 + 8 * a + b) := by
    rw [show (8 : Int32) = nI 8 from rfl, pk_mul, show (5 : Int32) = nI 5 from rfl, nI_add, nI_add]
  have e2 : (5 + 8 * nI b + nI a : Int32) = nI (5 + 8 * b + a) := by
    rw [show (8 : Int32) = nI 8 from rfl, pk_mul, show (5 : Int32) = nI 5 from rfl, nI_add, nI_add]
  rw [e1, e2, gd_nI (N := 147) (by omega) (by decide), nm_s, gd_nI (N := 147) (by omega) (by decide), nm_s, gd_t (by decide), gd_t (by decide), nm_s, nI_clamp (n := 5 + 8 * a + b) (by omega), nI_clamp (n := 5 + 8 * b + a) (by omega), show Int32.toNatClampNeg 1 = 1 from by decide, A6g, pk_un (by omega), A6g, pk_un (by omega), hr, nI_1]
theorem JG.r45 (h : JG m u σ0 σT σ) (σR : MS) {r c h' : Nat} (D : DR r h' c σG (σ.2 6)) (hr : r < 14) {a : Nat} (ha : a < 8) (hne : σT.1 2 = 2 → ¬ σT.1 4 = nI a) : (∃ σR' σT' σG' σ', FR_readRoad_45 σR σT σG (nI a) = some (1, σR', σT', σG') ∧ FM_readRoad_43 σ (nI a) = some σ' ∧ JG m u σ0 σT' σ' ∧ DR (r + 1) h' c σG' (σ'.2 6)) ∨ (∃ σR' σT' σG' σ', FR_readRoad_45 σR σT σG (nI a) = some (0, σR', σT', σG') ∧ FM_readRoad_43 σ (nI a) = some σ' ∧ JB m u σ0 σR' σ') := by
  unfold FR_readRoad_45 FM_readRoad_43
  rcases h.num σR 0 7 with ⟨b, σT2, σ2, x1, x2, x3, x4, x5, x6, x7, x8⟩ | ⟨x, σR2, σ2, x5, x6, x7, x8⟩
  · have hb : b ≤ 7 := (nI_leI (a := b) (b := 7) (by omega) (by decide)).mp x3
    have hab : a ≠ b := fun q => hne x4.1 (by rw [x4.2, q])
    rw [x5, x6, bd3_s, bd2_s, if_neg one_ne_zero32, nm_s, show (setF σR 1 (nI b)).1 1 = nI b from rfl]
    rcases x7.num (setF σR 1 (nI b)) 1 90 with ⟨d, σT3, σ3, y1, y2, y3, -, y5, y6, y7, y8⟩ | ⟨x, σR3, σ3, y5, y6, y7, y8⟩
    · have hd1 : 1 ≤ d := (nI_leI (a := 1) (b := d) (by decide) (by omega)).mp y2
      have hd : d ≤ 90 := (nI_leI (a := d) (b := 90) (by omega) (by decide)).mp y3
      rw [y5, y6, bd3_s, bd2_s, if_neg one_ne_zero32, show (setF (setF σR 1 (nI b)) 1 (nI d)).1 1 = nI d from rfl]
      obtain ⟨z, z1, z2, z3⟩ := D.road hr ha (by omega : b < 8) hab hd1 hd
      rw [p_addRoad σG ha (by omega) (nI d) z1, Option.bind_some]
      rcases y7.sign (setF (setF σR 1 (nI b)) 1 (nI d)) with ⟨σT4, σ4, s1, s2, s3, s4⟩ | ⟨σR4, σ4, s1, s2, s3, s4⟩
      · have e4 : σ4.2 = σ.2 := s4.trans (y8.trans x8)
        have e1 : (5 + 8 * nI a + nI b : Int32) = nI (5 + 8 * a + b) := by
          rw [show (8 : Int32) = nI 8 from rfl, pk_mul, show (5 : Int32) = nI 5 from rfl, nI_add, nI_add]
        have hg1 : σ4.2 6 1 = nI r := by rw [e4]; exact D.2.1.1
        refine Or.inl ⟨setF (setF σR 1 (nI b)) 1 (nI d), σT4, setA (setA σG 0 (8 * a + b) (nI z)) 0 (8 * b + a) (nI z), setA (setA (setA σ4 6 (5 + 8 * a + b) (nI z)) 6 (5 + 8 * b + a) (nI z)) 6 1 (nI (r + 1)), ?_, ?_, ((s3.A6 _ _).A6 _ _).A6 _ _, ?_⟩
        · rw [s1]
          rw [bd3_s, gd_t (Or.inr rfl)]
        · rw [s2, Option.bind_some, s3.2.2.1, if_pos rfl, e1, gd_nI (N := 147) (by omega) (by decide), gd_nI (N := 147) (by omega) (by decide), nI_clamp (by omega), p_104 σ4 ha (by omega) hg1, p_104 σ4 ha (by omega) hg1, e4, ← z2]
          by_cases q : nI d ≤ σ.2 6 (5 + 8 * a + b)
          · rw [if_pos q, if_pos q]
          · rw [if_neg q, if_neg q]
        · rw [A6g, A6g, A6g, e4]
          exact z3
      · refine Or.inr ⟨σR4, σT3, setA (setA σG 0 (8 * a + b) (nI z)) 0 (8 * b + a) (nI z), σ4, ?_, ?_, s3⟩
        · rw [s1, bd3_s, gd_t (Or.inl rfl)]
        · rw [s2, Option.bind_some]
          obtain ⟨f, h1, h3, e, -⟩ := s3
          rw [e, if_neg (bf_pos h1 h3).1]
    · refine Or.inr ⟨σR3, σT2, σG, σ3, ?_, ?_, y7⟩
      · rw [y5]
        rfl
      · rw [y6]
        show Option.bind (FM_mustEnd σ3) _ = _
        rw [y7.end_, Option.bind_some]
        obtain ⟨f, h1, h3, e, -⟩ := y7
        rw [e, if_neg (bf_pos h1 h3).1]
  · refine Or.inr ⟨σR2, σT, σG, σ2, ?_, ?_, x7⟩
    · rw [x5]
      rfl
    · rw [x6, bd2_s, x7.num, bd2_s, x7.end_, Option.bind_some]
      obtain ⟨f, h1, h3, e, -⟩ := x7
      rw [e, if_neg (bf_pos h1 h3).1]
theorem JG.road (h : JG m u σ0 σT σ) (σR : MS) {r c h' : Nat} (D : DR r h' c σG (σ.2 6)) (hr : r < 14) : (∃ σT1 σR' σT' σG' σ', FT_step σT = some σT1 ∧ FR_readRoad σR σT1 σG = some (1, σR', σT', σG') ∧ FM_readRoad σ = some σ' ∧ JG m u σ0 σT' σ' ∧ DR (r + 1) h' c σG' (σ'.2 6)) ∨ (∃ σT1 σR' σT' σG' σ', FT_step σT = some σT1 ∧ FR_readRoad σR σT1 σG = some (0, σR', σT', σG') ∧ FM_readRoad σ = some σ' ∧ JB m u σ0 σR' σ') := by
  have hg1 : ¬ σ.2 6 1 = 14 := by
    rw [D.2.1.1]
    intro q
    have := (nI_eq (a := r) (b := 14) (by omega) (by decide)).mp q
    omega
  obtain ⟨σT1, σ1, i1, i2, i3, i4⟩ := h.begins (a := 1) (by decide) hg1
  have D1 : DR r h' c σG (σ1.2 6) := by rw [i4]; exact D
  unfold FR_readRoad FM_readRoad
  rw [show FM_begins σ 1 14 = _ from i2, Option.bind_some]
  rcases i3.num σR 0 7 with ⟨a, σT2, σ2, x1, x2, x3, x4, x5, x6, x7, x8⟩ | ⟨x, σR2, σ2, x5, x6, x7, x8⟩
  · have ha : a ≤ 7 := (nI_leI (a := a) (b := 7) (by omega) (by decide)).mp x3
    have D2 : DR r h' c σG (σ2.2 6) := by rw [x8]; exact D1
    obtain ⟨s1, -, -, s4⟩ := x7.sort
    have cl : FR_takeNumber σR σT1 0 7 = some (1, setF σR 1 (nI a), σT2) := x5
    have eL : ∀ X, (if (σT2.1 2) = 2 then (if (σT2.1 4) = nI a then (bd2 (FR_faulty (setF σR 1 (nI a)) σT2 2) fun (r8 : Int32) (σ9 : MS) => gd (r8 = 0 ∨ r8 = 1) (some (r8, σ9, σT2, σG))) else (FR_readRoad_45 (setF σR 1 (nI a)) σT2 σG (nI a))) else (FR_readRoad_45 (setF σR 1 (nI a)) σT2 σG (nI a))) = X → (bd3 (FR_takeNumber σR σT1 0 7) fun (r1 : Int32) (σ2 : MS) (σ3 : MS) => if r1 = 0 then (some (0, σ2, σ3, σG)) else (nm (σ2.1 1) fun (x5 : Int32) => if (σ3.1 2) = 2 then (if (σ3.1 4) = x5 then (bd2 (FR_faulty σ2 σ3 2) fun (r8 : Int32) (σ9 : MS) => gd (r8 = 0 ∨ r8 = 1) (some (r8, σ9, σ3, σG))) else (FR_readRoad_45 σ2 σ3 σG x5)) else (FR_readRoad_45 σ2 σ3 σG x5))) = X := by
      intro X hX
      rw [cl]
      exact hX
    have eM : ∀ X, (if (σ2.1 15) = 3 then (Option.bind (FM_figures σ2) fun (r7 : Int32) => if r7 = nI a then (Option.bind (FM_bad σ2 2) fun (σ10 : MS) => FM_readRoad_43 σ10 (nI a)) else (FM_readRoad_43 σ2 (nI a))) else (FM_readRoad_43 σ2 (nI a))) = X → (bd2 (FM_number σ1 0 7) fun (r3 : Int32) (σ4 : MS) => if (σ4.1 18) = 0 then (if (σ4.1 15) = 3 then (Option.bind (FM_figures σ4) fun (r7 : Int32) => if r7 = r3 then (Option.bind (FM_bad σ4 2) fun (σ10 : MS) => FM_readRoad_43 σ10 r3) else (FM_readRoad_43 σ4 r3)) else (FM_readRoad_43 σ4 r3)) else (FM_readRoad_43 σ4 r3)) = X := by
      intro X hX
      rw [x6]
      show (if (σ2.1 18) = 0 then _ else _) = X
      rw [x7.2.2.1, if_pos rfl]
      exact hX
    by_cases z : σT2.1 2 = 2
    · obtain ⟨v, hv, ev, ef⟩ := s4 z
      by_cases q : σT2.1 4 = nI a
      · obtain ⟨σR3, σ3, j1, j2, j3, -, -⟩ := x7.fail (setF σR 1 (nI a)) (f := 2) (by decide) (by decide)
        refine Or.inr ⟨σT1, σR3, σT2, σG, σ3, i1, eL _ ?_, eM _ ?_, j3⟩
        · rw [if_pos z, if_pos q, show FR_faulty (setF σR 1 (nI a)) σT2 2 = _ from j2, bd2_s, gd_t (Or.inl rfl)]
        · rw [if_pos (s1.mp z), ef, Option.bind_some, if_pos (ev.symm.trans q), show FM_bad σ2 2 = _ from j1, Option.bind_some, j3.r43]
      · rcases x7.r45 (setF σR 1 (nI a)) D2 hr (a := a) (by omega) (fun _ => q) with ⟨σR3, σT3, σG3, σ3, j1, j2, j3, j4⟩ | ⟨σR3, σT3, σG3, σ3, j1, j2, j3⟩
        · refine Or.inl ⟨σT1, σR3, σT3, σG3, σ3, i1, eL _ ?_, eM _ ?_, j3, j4⟩
          · rw [if_pos z, if_neg q, j1]
          · rw [if_pos (s1.mp z), ef, Option.bind_some, if_neg (fun y => q (ev.trans y)), j2]
        · refine Or.inr ⟨σT1, σR3, σT3, σG3, σ3, i1, eL _ ?_, eM _ ?_, j3⟩
          · rw [if_pos z, if_neg q, j1]
          · rw [if_pos (s1.mp z), ef, Option.bind_some, if_neg (fun y => q (ev.trans y)), j2]
    · have z' : ¬ σ2.1 15 = 3 := fun q => z (s1.mpr q)
      rcases x7.r45 (setF σR 1 (nI a)) D2 hr (a := a) (by omega) (fun q => absurd q z) with ⟨σR3, σT3, σG3, σ3, j1, j2, j3, j4⟩ | ⟨σR3, σT3, σG3, σ3, j1, j2, j3⟩
      · refine Or.inl ⟨σT1, σR3, σT3, σG3, σ3, i1, eL _ ?_, eM _ ?_, j3, j4⟩
        · rw [if_neg z, j1]
        · rw [if_neg z', j2]
      · refine Or.inr ⟨σT1, σR3, σT3, σG3, σ3, i1, eL _ ?_, eM _ ?_, j3⟩
        · rw [if_neg z, j1]
        · rw [if_neg z', j2]
  · refine Or.inr ⟨σT1, σR2, σT1, σG, σ2, i1, ?_, ?_, x7⟩
    · rw [x5]
      rfl
    · rw [x6]
      show (if (σ2.1 18) = 0 then _ else _) = _
      have h43 := x7.r43
      obtain ⟨f, h1, h3, e, -⟩ := x7
      rw [e, if_neg (bf_pos h1 h3).1, h43]
theorem roads_loop (n nB : Nat) {c h' : Nat} : ∀ (d r : Nat) (σR σT σG σ : MS), r + d = 14 → JG m u σ0 σT σ → DR r h' c σG (σ.2 6) → (∃ r' σR' σT' σG' σ', FR_readRoads_2 (n + d + 1) σR σT σG (nI r) = some (1, σR', σT', σG') ∧ FM_realm_112 (nB + d + 2) σ = FM_realm_130 fuelN σ' ∧ JG m u σ0 σT' σ' ∧ DR r' h' c σG' (σ'.2 6)) ∨ (∃ σR' σT' σG' σ', FR_readRoads_2 (n + d + 1) σR σT σG (nI r) = some (0, σR', σT', σG') ∧ FM_realm_112 (nB + d + 2) σ = some (-1000100 - σR'.1 3, setF σ' 12 (σR'.1 2)) ∧ JB m u σ0 σR' σ') := by
  intro d
  induction d with
  | zero =>
    intro r σR σT σG σ hr h D
    have hr : r = 14 := hr
    subst hr
    obtain ⟨v, n1, n2⟩ := h.name
    show (∃ r' σR' σT' σG' σ', FR_readRoads_2 (n + 1) σR σT σG (nI 14) = _ ∧ FM_realm_112 (nB + 1 + 1) σ = _ ∧ _) ∨ (∃ σR' σT' σG' σ', FR_readRoads_2 (n + 1) σR σT σG (nI 14) = _ ∧ FM_realm_112 (nB + 1 + 1) σ = _ ∧ _)
    rw [FR_readRoads_2, FM_realm_112, n1, Option.bind_some, n2 1 (by decide), Option.bind_some, if_neg (show ¬ (14 : Int32) < nI 14 by decide), zc_v.2.1]
    by_cases z : v = 1919902052
    · obtain ⟨σR', σ', i1, i2, i3, i4⟩ := h.beginsF σR (a := 1) (by decide) (b := 14) D.2.1.1
      refine Or.inr ⟨σR', σT, σG, σ', ?_, ?_, i3⟩
      · rw [if_pos z, if_neg one_ne_zero32, if_pos (show nI 14 = 14 from rfl), i1, bd2_s, gd_t (Or.inl rfl)]
      · rw [if_pos ((lg_cmp_eq _ _).mpr z), FM_readRoad, show FM_begins σ 1 14 = _ from i2, Option.bind_some, i3.num]
        show Option.bind (if (σ'.1 18) = 0 then _ else _) _ = _
        have h43 := i3.r43
        have h112 := i3.e112 nB
        obtain ⟨f, h1, h3, e, -⟩ := i3
        rw [e, if_neg (bf_pos h1 h3).1, h43, Option.bind_some, h112]
    · refine Or.inl ⟨14, σR, σT, σG, σ, ?_, ?_, h, D⟩
      · rw [if_neg z, if_pos rfl]
      · rw [if_neg (fun q => z ((lg_cmp_eq _ _).mp q))]
  | succ d ih =>
    intro r σR σT σG σ hr h D
    obtain ⟨v, n1, n2⟩ := h.name
    show (∃ r' σR' σT' σG' σ', FR_readRoads_2 ((n + d + 1) + 1) σR σT σG (nI r) = _ ∧ FM_realm_112 ((nB + d + 2) + 1) σ = _ ∧ _) ∨ (∃ σR' σT' σG' σ', FR_readRoads_2 ((n + d + 1) + 1) σR σT σG (nI r) = _ ∧ FM_realm_112 ((nB + d + 2) + 1) σ = _ ∧ _)
    rw [FR_readRoads_2, FM_realm_112, n1, Option.bind_some, n2 1 (by decide), Option.bind_some, if_neg (show ¬ (14 : Int32) < nI r from nI_nlt (a := 14) (by omega) (by decide)), zc_v.2.1]
    by_cases z : v = 1919902052
    · rw [if_pos z, if_neg one_ne_zero32, if_neg (show ¬ nI r = 14 from fun q => by have := (nI_eq (a := r) (b := 14) (by omega) (by decide)).mp q; omega), if_pos ((lg_cmp_eq _ _).mpr z)]
      rcases h.road σR D (by omega) with ⟨σT1, σR2, σT2, σG2, σ2, j0, j1, j2, j3, j4⟩ | ⟨σT1, σR2, σT2, σG2, σ2, j0, j1, j2, j3⟩
      · rw [j0, Option.bind_some, j1, j2, Option.bind_some]
        rw [bd4_s, if_neg one_ne_zero32, nm_s, nI_1]
        exact ih (r + 1) σR2 σT2 σG2 σ2 (by omega) j3 j4
      · refine Or.inr ⟨σR2, σT2, σG2, σ2, ?_, ?_, j3⟩
        · rw [j0, Option.bind_some, j1]
          rfl
        · rw [j2, Option.bind_some]
          exact j3.e112 (nB + d + 1)
    · refine Or.inl ⟨r, σR, σT, σG, σ, ?_, ?_, h, D⟩
      · rw [if_neg z, if_pos rfl]
      · rw [if_neg (fun q => z ((lg_cmp_eq _ _).mp q))]
theorem p_addHolder (σG : MS) {h' : Nat} (hh : h' < 6) (e : σG.1 6 = nI h') (t : Int32) : FL_addHolder σG t = some (setF (setA σG 1 h' t) 6 (nI (h' + 1))) := by
  unfold FL_addHolder
  rw [e, if_neg (show ¬ (6 : Int32) ≤ nI h' from nI_ge (b := 6) hh (by decide)), gd_nI (N := 6) hh (by decide), nI_clamp (by omega), nm_s, nm_s, show (setA σG 1 h' t).1 6 = nI h' from e, nI_1]
theorem JB.hold (h : JB m u σ0 σR σ) : (bd2 (FM_number σ 1 7) fun (r3 : Int32) (σ4 : MS) => Option.bind (FM_mustEnd σ4) fun (σ6 : MS) => if (σ6.1 18) = 0 then (gd (¬ ((2 : Int32) < 0 ∨ 147 ≤ Int32.toNatClampNeg 2)) (gd (¬ (((69 + (σ6.2 6 (Int32.toNatClampNeg 2))) : Int32) < 0 ∨ 147 ≤ Int32.toNatClampNeg (69 + (σ6.2 6 (Int32.toNatClampNeg 2))))) (nm (setA σ6 6 (Int32.toNatClampNeg (69 + (σ6.2 6 (Int32.toNatClampNeg 2)))) r3) fun (σ10 : MS) => gd (¬ ((2 : Int32) < 0 ∨ 147 ≤ Int32.toNatClampNeg 2)) (gd (¬ ((2 : Int32) < 0 ∨ 147 ≤ Int32.toNatClampNeg 2)) (nm (setA σ10 6 (Int32.toNatClampNeg 2) ((σ10.2 6 (Int32.toNatClampNeg 2)) + 1)) fun (σ13 : MS) => some σ13))))) else (some σ6)) = some σ := by
  rw [h.num]
  show Option.bind (FM_mustEnd σ) _ = _
  rw [h.end_, Option.bind_some]
  obtain ⟨f, h1, h3, e, -⟩ := h
  rw [e, if_neg (bf_pos h1 h3).1]
theorem JG.holder (h : JG m u σ0 σT σ) (σR : MS) {r h' : Nat} (D : DR r h' 0 σG (σ.2 6)) (hh : h' < 6) : ∃ σT1, FT_step σT = some σT1 ∧ ((∃ v σR1 σT2 σT' σG' σ', FR_takeNumber σR σT1 1 7 = some (1, σR1, σT2) ∧ σR1.1 1 = nI v ∧ FL_addHolder σG (nI v) = some σG' ∧ FR_takeSign σR1 σT2 = some (1, σR1, σT') ∧ FM_readHolder σ = some σ' ∧ JG m u σ0 σT' σ' ∧ DR r (h' + 1) 0 σG' (σ'.2 6)) ∨ (∃ σR' σ', FR_takeNumber σR σT1 1 7 = some (0, σR', σT1) ∧ FM_readHolder σ = some σ' ∧ JB m u σ0 σR' σ') ∨ (∃ v σR1 σT2 σR' σG' σ', FR_takeNumber σR σT1 1 7 = some (1, σR1, σT2) ∧ σR1.1 1 = nI v ∧ FL_addHolder σG (nI v) = some σG' ∧ FR_takeSign σR1 σT2 = some (0, σR', σT2) ∧ FM_readHolder σ = some σ' ∧ JB m u σ0 σR' σ')) := by
  have hg : ¬ σ.2 6 2 = 6 := by
    rw [D.2.2.1.2.1]
    intro q
    have := (nI_eq (a := h') (b := 6) (by omega) (by decide)).mp q
    omega
  obtain ⟨σT1, σ1, i1, i2, i3, i4⟩ := h.begins (a := 2) (by decide) hg
  refine ⟨σT1, i1, ?_⟩
  unfold FM_readHolder
  rw [show FM_begins σ 2 6 = _ from i2, Option.bind_some]
  rcases i3.num σR 1 7 with ⟨t, σT2, σ2, x1, x2, x3, -, x5, x6, x7, x8⟩ | ⟨x, σR2, σ2, x5, x6, x7, x8⟩
  · have ht1 : 1 ≤ t := (nI_leI (a := 1) (b := t) (by decide) (by omega)).mp x2
    have ht : t ≤ 7 := (nI_leI (a := t) (b := 7) (by omega) (by decide)).mp x3
    have hA := p_addHolder σG hh D.2.2.1.1 (nI t)
    rcases x7.sign (setF σR 1 (nI t)) with ⟨σT3, σ3, s1, s2, s3, s4⟩ | ⟨σR3, σ3, s1, s2, s3, s4⟩
    · have e4 : σ3.2 = σ.2 := s4.trans (x8.trans i4)
      have hg2 : σ3.2 6 2 = nI h' := by rw [e4]; exact D.2.2.1.2.1
      refine Or.inl ⟨t, _, σT2, σT3, _, setA (setA σ3 6 (69 + h') (nI t)) 6 2 (nI (h' + 1)), x5, rfl, hA, s1, ?_, (s3.A6 _ _).A6 _ _, ?_⟩
      · rw [x6]
        show Option.bind (FM_mustEnd σ2) _ = _
        rw [s2, Option.bind_some, s3.2.2.1, if_pos rfl, gd_t (by decide), show Int32.toNatClampNeg 2 = 2 from by decide, hg2, show (69 + nI h' : Int32) = nI (69 + h') from nI_add 69 h', gd_nI (N := 147) (by omega) (by decide), nI_clamp (by omega), nm_s, gd_t (by decide), gd_t (by decide), nm_s, A6g, pk_un (by omega), hg2, nI_1]
      · rw [A6g, A6g, e4]
        exact D.holder hh rfl ht1 ht
    · refine Or.inr (Or.inr ⟨t, _, σT2, σR3, _, σ3, x5, rfl, hA, s1, ?_, s3⟩)
      rw [x6]
      show Option.bind (FM_mustEnd σ2) _ = _
      rw [s2, Option.bind_some]
      obtain ⟨f, h1, h3, e, -⟩ := s3
      rw [e, if_neg (bf_pos h1 h3).1]
  · refine Or.inr (Or.inl ⟨σR2, σ2, x5, ?_, x7⟩)
    rw [x6]
    show Option.bind (FM_mustEnd σ2) _ = _
    rw [x7.end_, Option.bind_some]
    obtain ⟨f, h1, h3, e, -⟩ := x7
    rw [e, if_neg (bf_pos h1 h3).1]
theorem holders_loop (n nB : Nat) {r : Nat} : ∀ (d h' : Nat) (σR σT σG σ : MS), h' + d = 6 → JG m u σ0 σT σ → DR r h' 0 σG (σ.2 6) → (∃ h2 σR' σT' σG' σ', FR_readHolders_2 (n + d + 1) σR σT σG (nI h') = some (1, σR', σT', σG') ∧ FM_realm_130 (nB + d + 2) σ = FM_realm_148 fuelN σ' ∧ JG m u σ0 σT' σ' ∧ DR r h2 0 σG' (σ'.2 6)) ∨ (∃ σR' σT' σG' σ', FR_readHolders_2 (n + d + 1) σR σT σG (nI h') = some (0, σR', σT', σG') ∧ FM_realm_130 (nB + d + 2) σ = some (-1000100 - σR'.1 3, setF σ' 12 (σR'.1 2)) ∧ JB m u σ0 σR' σ') := by
  intro d
  induction d with
  | zero =>
    intro h' σR σT σG σ hr h D
    have hr : h' = 6 := hr
    subst hr
    obtain ⟨v, n1, n2⟩ := h.name
    show (∃ h2 σR' σT' σG' σ', FR_readHolders_2 (n + 1) σR σT σG (nI 6) = _ ∧ FM_realm_130 (nB + 1 + 1) σ = _ ∧ _) ∨ (∃ σR' σT' σG' σ', FR_readHolders_2 (n + 1) σR σT σG (nI 6) = _ ∧ FM_realm_130 (nB + 1 + 1) σ = _ ∧ _)
    rw [FR_readHolders_2, FM_realm_130, n1, Option.bind_some, n2 2 (by decide), Option.bind_some, if_neg (show ¬ (6 : Int32) < nI 6 by decide), zc_v.2.2.1]
    by_cases z : v = 114827769177458
    · obtain ⟨σR', σ', i1, i2, i3, i4⟩ := h.beginsF σR (a := 2) (by decide) (b := 6) D.2.2.1.2.1
      refine Or.inr ⟨σR', σT, σG, σ', ?_, ?_, i3⟩
      · rw [if_pos z, if_neg one_ne_zero32, if_pos (show nI 6 = 6 from rfl), i1, bd2_s, gd_t (Or.inl rfl)]
      · rw [if_pos ((lg_cmp_eq _ _).mpr z), FM_readHolder, show FM_begins σ 2 6 = _ from i2, Option.bind_some, i3.hold, Option.bind_some]
        exact i3.e130 nB
    · refine Or.inl ⟨6, σR, σT, σG, σ, ?_, ?_, h, D⟩
      · rw [if_neg z, if_pos rfl]
      · rw [if_neg (fun q => z ((lg_cmp_eq _ _).mp q))]
  | succ d ih =>
    intro h' σR σT σG σ hr h D
    obtain ⟨v, n1, n2⟩ := h.name
    show (∃ h2 σR' σT' σG' σ', FR_readHolders_2 ((n + d + 1) + 1) σR σT σG (nI h') = _ ∧ FM_realm_130 ((nB + d + 2) + 1) σ = _ ∧ _) ∨ (∃ σR' σT' σG' σ', FR_readHolders_2 ((n + d + 1) + 1) σR σT σG (nI h') = _ ∧ FM_realm_130 ((nB + d + 2) + 1) σ = _ ∧ _)
    rw [FR_readHolders_2, FM_realm_130, n1, Option.bind_some, n2 2 (by decide), Option.bind_some, if_neg (show ¬ (6 : Int32) < nI h' from nI_nlt (a := 6) (by omega) (by decide)), zc_v.2.2.1]
    by_cases z : v = 114827769177458
    · rw [if_pos z, if_neg one_ne_zero32, if_neg (show ¬ nI h' = 6 from fun q => by have := (nI_eq (a := h') (b := 6) (by omega) (by decide)).mp q; omega), if_pos ((lg_cmp_eq _ _).mpr z)]
      obtain ⟨σT1, j0, hh⟩ := h.holder σR D (by omega)
      rw [j0, Option.bind_some]
      rcases hh with ⟨v, σR1, σT2, σT', σG', σ', k1, k2, k3, k4, k5, k6, k7⟩ | ⟨σR', σ', k1, k5, k6⟩ | ⟨v, σR1, σT2, σR', σG', σ', k1, k2, k3, k4, k5, k6⟩
      · rw [k1, k5, Option.bind_some]
        rw [bd3_s, if_neg one_ne_zero32, k2, k3, Option.bind_some, k4, bd3_s, if_neg one_ne_zero32, nm_s, nI_1]
        exact ih (h' + 1) σR1 σT' σG' σ' (by omega) k6 k7
      · refine Or.inr ⟨σR', σT1, σG, σ', ?_, ?_, k6⟩
        · rw [k1]
          rfl
        · rw [k5, Option.bind_some]
          exact k6.e130 (nB + d + 1)
      · refine Or.inr ⟨σR', σT2, σG', σ', ?_, ?_, k6⟩
        · rw [k1, bd3_s, if_neg one_ne_zero32, k2, k3, Option.bind_some, k4]
          rfl
        · rw [k5, Option.bind_some]
          exact k6.e130 (nB + d + 1)
    · refine Or.inl ⟨h', σR, σT, σG, σ, ?_, ?_, h, D⟩
      · rw [if_neg z, if_pos rfl]
      · rw [if_neg (fun q => z ((lg_cmp_eq _ _).mp q))]
end RD
