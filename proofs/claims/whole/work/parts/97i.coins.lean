/-! PURE: realm: coins, read by both -/
section RC
variable {m : Nat} {u : Nat → Nat} {σ0 σT σR σG σ : MS}
theorem JG.kindW (h : JG m u σ0 σT σ) (σR : MS) : ∃ v : Int64, FM_name σ = some v ∧ ((∃ kk : Nat, 1 ≤ kk ∧ kk ≤ 5 ∧ FR_kindOfWord σR σT = some (nI kk) ∧ FM_kindBy v = some (nI kk)) ∨ (FR_kindOfWord σR σT = some 0 ∧ FM_kindBy v = some (-1000000))) := by
  obtain ⟨v, n1, n2⟩ := h.name
  refine ⟨v, n1, ?_⟩
  unfold FR_kindOfWord FM_kindBy
  rw [n2 4 (by decide), n2 5 (by decide), n2 6 (by decide), n2 7 (by decide), n2 8 (by decide), zc_v.2.2.2.2.1, zc_v.2.2.2.2.2.1, zc_v.2.2.2.2.2.2.1, zc_v.2.2.2.2.2.2.2.1, zc_v.2.2.2.2.2.2.2.2]
  simp only [Option.bind_some, lg_cmp_eq]
  by_cases z4 : v = 1735355492
  · exact Or.inl ⟨2, by decide, by decide, by rw [if_pos z4, if_neg one_ne_zero32]; rfl, by rw [if_pos z4]; rfl⟩
  rw [if_neg z4, if_neg z4, if_pos rfl]
  by_cases z5 : v = 126896628458866
  · exact Or.inl ⟨1, by decide, by decide, by rw [if_pos z5, if_neg one_ne_zero32]; rfl, by rw [if_pos z5]; rfl⟩
  rw [if_neg z5, if_neg z5, if_pos rfl]
  by_cases z6 : v = 109330278933874
  · exact Or.inl ⟨3, by decide, by decide, by rw [if_pos z6, if_neg one_ne_zero32]; rfl, by rw [if_pos z6]; rfl⟩
  rw [if_neg z6, if_neg z6, if_pos rfl]
  by_cases z7 : v = 112628846781796
  · exact Or.inl ⟨5, by decide, by decide, by rw [if_pos z7, if_neg one_ne_zero32]; rfl, by rw [if_pos z7]; rfl⟩
  rw [if_neg z7, if_neg z7, if_pos rfl]
  by_cases z8 : v = 7302244
  · exact Or.inl ⟨4, by decide, by decide, by rw [if_pos z8, if_neg one_ne_zero32]; rfl, by rw [if_pos z8]; rfl⟩
  rw [if_neg z8, if_neg z8, if_pos rfl]
  exact Or.inr ⟨rfl, rfl⟩
theorem JB.c37 (h : JB m u σ0 σR σ) (l : Int32) : FM_readCoin_37 σ l = some σ := by
  have hn := h.num
  have he := h.end_
  unfold FM_readCoin_37
  rw [gd_t (by decide), hn, bd2_s, hn, bd2_s, he, Option.bind_some]
  obtain ⟨f, h1, h3, e, -⟩ := h
  rw [e, if_neg (bf_pos h1 h3).1]
theorem p_addCoin (σG : MS) {c : Nat} (hc : c < 12) (e : σG.1 7 = nI c) (kk q a : Int32) : FL_addCoin σG kk q a = some (setF (setA (setA (setA σG 2 c kk) 3 (5 * c) q) 3 (5 * c + 1) a) 7 (nI (c + 1))) := by
  unfold FL_addCoin
  rw [e, if_neg (show ¬ (12 : Int32) ≤ nI c from nI_ge (b := 12) hc (by decide)), gd_nI (N := 12) hc (by decide), nI_clamp (by omega), nm_s, show (setA σG 2 c kk).1 7 = nI c from e, show FL_put (setA σG 2 c kk) (nI c) 0 q = _ from p_lput (setA σG 2 c kk) (c := c) (f := 0) (by omega) q, Option.bind_some, Nat.add_zero, show (setA (setA σG 2 c kk) 3 (5 * c) q).1 7 = nI c from e, show FL_put (setA (setA σG 2 c kk) 3 (5 * c) q) (nI c) 1 a = _ from p_lput (setA (setA σG 2 c kk) 3 (5 * c) q) (c := c) (f := 1) (by omega) a, Option.bind_some, nm_s, show (setA (setA (setA σG 2 c kk) 3 (5 * c) q) 3 (5 * c + 1) a).1 7 = nI c from e, nI_1]
theorem JG.c37 (h : JG m u σ0 σT σ) (σR : MS) {r h' c : Nat} (D : DR r h' c σG (σ.2 6)) (hc : c < 12) {kk : Nat} (k1 : 1 ≤ kk) (k5 : kk ≤ 5) : (∃ σR' σT' σG' σ', (bd3 (FR_takeNumber σR σT 0 ((σG.1 6) - 1)) fun (r5 : Int32) (σ6 : MS) (σ7 : MS) => if r5 = 0 then (some ((0 : Int32), σ6, σ7, σG)) else (nm (σ6.1 1) fun (x9 : Int32) => bd3 (FR_takeNumber σ6 σ7 0 400) fun (r10 : Int32) (σ11 : MS) (σ12 : MS) => if r10 = 0 then (some (0, σ11, σ12, σG)) else (Option.bind (FL_addCoin σG (nI kk) x9 (σ11.1 1)) fun (σ15 : MS) => bd3 (FR_takeSign σ11 σ12) fun (r16 : Int32) (σ17 : MS) (σ18 : MS) => gd (r16 = 0 ∨ r16 = 1) (some (r16, σ17, σ18, σ15))))) = some (1, σR', σT', σG') ∧ FM_readCoin_37 σ (nI kk) = some σ' ∧ JG m u σ0 σT' σ' ∧ DR r h' (c + 1) σG' (σ'.2 6)) ∨ (∃ σR' σT' σG' σ', (bd3 (FR_takeNumber σR σT 0 ((σG.1 6) - 1)) fun (r5 : Int32) (σ6 : MS) (σ7 : MS) => if r5 = 0 then (some ((0 : Int32), σ6, σ7, σG)) else (nm (σ6.1 1) fun (x9 : Int32) => bd3 (FR_takeNumber σ6 σ7 0 400) fun (r10 : Int32) (σ11 : MS) (σ12 : MS) => if r10 = 0 then (some (0, σ11, σ12, σG)) else (Option.bind (FL_addCoin σG (nI kk) x9 (σ11.1 1)) fun (σ15 : MS) => bd3 (FR_takeSign σ11 σ12) fun (r16 : Int32) (σ17 : MS) (σ18 : MS) => gd (r16 = 0 ∨ r16 = 1) (some (r16, σ17, σ18, σ15))))) = some (0, σR', σT', σG') ∧ FM_readCoin_37 σ (nI kk) = some σ' ∧ JB m u σ0 σR' σ') := by
  have hG6 : σG.1 6 = nI h' := D.2.2.1.1
  have hg2 : σ.2 6 2 = nI h' := D.2.2.1.2.1
  have hh6 : h' ≤ 6 := D.2.2.1.2.2
  unfold FM_readCoin_37
  rw [gd_t (by decide), show Int32.toNatClampNeg 2 = 2 from by decide, hg2, hG6]
  rcases h.num σR 0 (nI h' - 1) with ⟨q, σT2, σ2, x1, x2, x3, -, x5, x6, x7, x8⟩ | ⟨x, σR2, σ2, x5, x6, x7, x8⟩
  · have hq : q < h' := by
      obtain ⟨i, hi, e⟩ := (ixm (m := h') (by omega)).mp ⟨x2, x3⟩
      have := (nI_eq (by omega) (by omega)).mp e
      omega
    rw [x5, x6, bd3_s, bd2_s, if_neg one_ne_zero32, nm_s, show (setF σR 1 (nI q)).1 1 = nI q from rfl]
    rcases x7.num (setF σR 1 (nI q)) 0 400 with ⟨a, σT3, σ3, y1, y2, y3, -, y5, y6, y7, y8⟩ | ⟨x, σR3, σ3, y5, y6, y7, y8⟩
    · have ha : a ≤ 400 := (nI_leI (a := a) (b := 400) (by omega) (by decide)).mp y3
      rw [y5, y6, bd3_s, bd2_s, if_neg one_ne_zero32, show (setF (setF σR 1 (nI q)) 1 (nI a)).1 1 = nI a from rfl, p_addCoin σG hc D.2.2.2.1.1, Option.bind_some]
      rcases y7.sign (setF (setF σR 1 (nI q)) 1 (nI a)) with ⟨σT4, σ4, s1, s2, s3, s4⟩ | ⟨σR4, σ4, s1, s2, s3, s4⟩
      · have e4 : σ4.2 = σ.2 := s4.trans (y8.trans x8)
        have hg3 : σ4.2 6 3 = nI c := by rw [e4]; exact D.2.2.2.1.2.1
        refine Or.inl ⟨setF (setF σR 1 (nI q)) 1 (nI a), σT4, setF (setA (setA (setA σG 2 c (nI kk)) 3 (5 * c) (nI q)) 3 (5 * c + 1) (nI a)) 7 (nI (c + 1)), setA (setA (setA (setA σ4 6 (75 + 6 * c) (nI kk)) 6 (75 + 6 * c + 1) (nI q)) 6 (75 + 6 * c + 2) (nI a)) 6 3 (nI (c + 1)), ?_, ?_, (((s3.A6 _ _).A6 _ _).A6 _ _).A6 _ _, ?_⟩
        · rw [s1, bd3_s, gd_t (Or.inr rfl)]
        · rw [s2, Option.bind_some, s3.2.2.1, if_pos rfl, gd_t (by decide), show Int32.toNatClampNeg 3 = 3 from by decide, hg3, nm_s, show (75 + 6 * nI c : Int32) = nI (75 + 6 * c) from by rw [show (6 : Int32) = nI 6 from rfl, pk_mul, show (75 : Int32) = nI 75 from rfl, nI_add], show (nI (75 + 6 * c) + 1 : Int32) = nI (75 + 6 * c + 1) from nI_1 _, show (nI (75 + 6 * c) + 2 : Int32) = nI (75 + 6 * c + 2) from nI_add _ 2, gd_nI (N := 147) (by omega) (by decide), nm_s, gd_nI (N := 147) (by omega) (by decide), nm_s, gd_nI (N := 147) (by omega) (by decide), nm_s, gd_t (by decide), gd_t (by decide), nm_s, nI_clamp (n := 75 + 6 * c) (by omega), nI_clamp (n := 75 + 6 * c + 1) (by omega), nI_clamp (n := 75 + 6 * c + 2) (by omega), A6g, pk_un (by omega), A6g, pk_un (by omega), A6g, pk_un (by omega), hg3, nI_1]
        · rw [A6g, A6g, A6g, A6g, e4]
          exact D.coin hc k1 k5 hq ha
      · refine Or.inr ⟨σR4, σT3, setF (setA (setA (setA σG 2 c (nI kk)) 3 (5 * c) (nI q)) 3 (5 * c + 1) (nI a)) 7 (nI (c + 1)), σ4, ?_, ?_, s3⟩
        · rw [s1, bd3_s, gd_t (Or.inl rfl)]
        · rw [s2, Option.bind_some]
          obtain ⟨f, h1, h3, e, -⟩ := s3
          rw [e, if_neg (bf_pos h1 h3).1]
    · refine Or.inr ⟨σR3, σT2, σG, σ3, ?_, ?_, y7⟩
      · rw [y5]
        rfl
      · rw [y6]
        show Option.bind (FM_mustEnd σ3) _ = _
        rw [y7.end_, Option.bind_some]
        obtain ⟨f, h1, h3, e, -⟩ := y7
        rw [e, if_neg (bf_pos h1 h3).1]
  · refine Or.inr ⟨σR2, σT, σG, σ2, ?_, ?_, x7⟩
    · rw [x5]
      rfl
    · rw [x6, bd2_s, x7.num, bd2_s, x7.end_, Option.bind_some]
      obtain ⟨f, h1, h3, e, -⟩ := x7
      rw [e, if_neg (bf_pos h1 h3).1]
theorem JG.coin (h : JG m u σ0 σT σ) (σR : MS) {r h' c : Nat} (D : DR r h' c σG (σ.2 6)) (hc : c < 12) : (∃ σT1 σR' σT' σG' σ', FT_step σT = some σT1 ∧ FR_readCoin σR σT1 σG = some (1, σR', σT', σG') ∧ FM_readCoin σ = some σ' ∧ JG m u σ0 σT' σ' ∧ DR r h' (c + 1) σG' (σ'.2 6)) ∨ (∃ σT1 σR' σT' σG' σ', FT_step σT = some σT1 ∧ FR_readCoin σR σT1 σG = some (0, σR', σT', σG') ∧ FM_readCoin σ = some σ' ∧ JB m u σ0 σR' σ') := by
  have hg : ¬ σ.2 6 3 = 12 := by
    rw [D.2.2.2.1.2.1]
    intro q
    have := (nI_eq (a := c) (b := 12) (by omega) (by decide)).mp q
    omega
  obtain ⟨σT1, σ1, i1, i2, i3, i4⟩ := h.begins (a := 3) (by decide) hg
  have D1 : DR r h' c σG (σ1.2 6) := by rw [i4]; exact D
  obtain ⟨v, n1, hk⟩ := i3.kindW σR
  have hM0 : FM_readCoin σ = Option.bind (FM_kindBy v) fun (r4 : Int32) => if r4 = (-1000000) then (FM_readCoin_34 σ1 r4 0) else (FM_readCoin_34 σ1 r4 1) := by
    unfold FM_readCoin
    rw [show FM_begins σ 3 12 = _ from i2, Option.bind_some, n1, Option.bind_some, i3.2.2.1]
    cases FM_kindBy v with
    | none => rfl
    | some x => rw [Option.bind_some, Option.bind_some, if_pos rfl]
  rcases hk with ⟨kk, k1, k5, q1, q2⟩ | ⟨q1, q2⟩
  · obtain ⟨σT2, σ2, j1, -, j2, j3, j4⟩ := i3.next
    have D2 : DR r h' c σG (σ2.2 6) := by rw [j4]; exact D1
    have hM1 : FM_readCoin σ = FM_readCoin_37 σ2 (nI kk) := by
      rw [hM0, q2, Option.bind_some, if_neg (nI_ne_none (by omega)), FM_readCoin_34, j2, Option.bind_some]
    rcases j3.c37 σR D2 hc k1 k5 with ⟨σR3, σT3, σG3, σ3, l1, l2, l3, l4⟩ | ⟨σR3, σT3, σG3, σ3, l1, l2, l3⟩
    · refine Or.inl ⟨σT1, σR3, σT3, σG3, σ3, i1, ?_, hM1.trans l2, l3, l4⟩
      unfold FR_readCoin
      rw [q1, Option.bind_some, if_neg (nI_ne0 (by omega) (by omega)), j1, Option.bind_some]
      exact l1
    · refine Or.inr ⟨σT1, σR3, σT3, σG3, σ3, i1, ?_, hM1.trans l2, l3⟩
      unfold FR_readCoin
      rw [q1, Option.bind_some, if_neg (nI_ne0 (by omega) (by omega)), j1, Option.bind_some]
      exact l1
  · obtain ⟨σR3, σ3, j1, j2, j3, -⟩ := i3.must0 σR
    refine Or.inr ⟨σT1, σR3, σT1, σG, σ3, i1, ?_, ?_, j3⟩
    · unfold FR_readCoin
      rw [q1, Option.bind_some, if_pos rfl, j2, bd2_s, gd_t (Or.inl rfl)]
    · rw [hM0, q2, Option.bind_some, if_pos rfl, FM_readCoin_34, j1, Option.bind_some, j3.c37]
theorem coins_loop (n nB : Nat) {r h' : Nat} : ∀ (d c : Nat) (σR σT σG σ : MS), c + d = 12 → JG m u σ0 σT σ → DR r h' c σG (σ.2 6) → (∃ c' σR' σT' σG' σ', FR_readCoins_2 (n + d + 1) σR σT σG (nI c) = some (1, σR', σT', σG') ∧ FM_realm_148 (nB + d + 2) σ = (if (σ'.1 15) = 1 then (FM_realm_186 σ') else (Option.bind (FM_bad σ' 1) fun (σ37 : MS) => FM_realm_186 σ37)) ∧ JG m u σ0 σT' σ' ∧ DR r h' c' σG' (σ'.2 6)) ∨ (∃ σR' σT' σG' σ', FR_readCoins_2 (n + d + 1) σR σT σG (nI c) = some (0, σR', σT', σG') ∧ FM_realm_148 (nB + d + 2) σ = some (-1000100 - σR'.1 3, setF σ' 12 (σR'.1 2)) ∧ JB m u σ0 σR' σ') := by
  intro d
  induction d with
  | zero =>
    intro c σR σT σG σ hr h D
    have hr : c = 12 := hr
    subst hr
    obtain ⟨v, n1, n2⟩ := h.name
    show (∃ c' σR' σT' σG' σ', FR_readCoins_2 (n + 1) σR σT σG (nI 12) = _ ∧ FM_realm_148 (nB + 1 + 1) σ = _ ∧ _) ∨ (∃ σR' σT' σG' σ', FR_readCoins_2 (n + 1) σR σT σG (nI 12) = _ ∧ FM_realm_148 (nB + 1 + 1) σ = _ ∧ _)
    rw [FR_readCoins_2, FM_realm_148, n1, Option.bind_some, n2 3 (by decide), Option.bind_some, if_neg (show ¬ (12 : Int32) < nI 12 by decide), zc_v.2.2.2.1]
    by_cases z : v = 1668245870
    · obtain ⟨σR', σ', i1, i2, i3, i4⟩ := h.beginsF σR (a := 3) (by decide) (b := 12) D.2.2.2.1.2.1
      refine Or.inr ⟨σR', σT, σG, σ', ?_, ?_, i3⟩
      · rw [if_pos z, if_neg one_ne_zero32, if_pos (show nI 12 = 12 from rfl), i1, bd2_s, gd_t (Or.inl rfl)]
      · rw [if_pos ((lg_cmp_eq _ _).mpr z), FM_readCoin, show FM_begins σ 3 12 = _ from i2, Option.bind_some, i3.name, Option.bind_some, show FM_kindBy 0 = some (-1000000) from by decide +kernel, Option.bind_some]
        have h37 := i3.c37
        have h148 := i3.e148 nB
        obtain ⟨f, h1, h3, e, -⟩ := i3
        rw [e, if_neg (bf_pos h1 h3).1, h37, Option.bind_some, h148]
    · refine Or.inl ⟨12, σR, σT, σG, σ, ?_, ?_, h, D⟩
      · rw [if_neg z, if_pos rfl]
      · rw [if_neg (fun q => z ((lg_cmp_eq _ _).mp q)), h.2.2.1, if_pos rfl]
  | succ d ih =>
    intro c σR σT σG σ hr h D
    obtain ⟨v, n1, n2⟩ := h.name
    show (∃ c' σR' σT' σG' σ', FR_readCoins_2 ((n + d + 1) + 1) σR σT σG (nI c) = _ ∧ FM_realm_148 ((nB + d + 2) + 1) σ = _ ∧ _) ∨ (∃ σR' σT' σG' σ', FR_readCoins_2 ((n + d + 1) + 1) σR σT σG (nI c) = _ ∧ FM_realm_148 ((nB + d + 2) + 1) σ = _ ∧ _)
    rw [FR_readCoins_2, FM_realm_148, n1, Option.bind_some, n2 3 (by decide), Option.bind_some, if_neg (show ¬ (12 : Int32) < nI c from nI_nlt (a := 12) (by omega) (by decide)), zc_v.2.2.2.1]
    by_cases z : v = 1668245870
    · rw [if_pos z, if_neg one_ne_zero32, if_neg (show ¬ nI c = 12 from fun q => by have := (nI_eq (a := c) (b := 12) (by omega) (by decide)).mp q; omega), if_pos ((lg_cmp_eq _ _).mpr z)]
      rcases h.coin σR D (by omega) with ⟨σT1, σR2, σT2, σG2, σ2, j0, j1, j2, j3, j4⟩ | ⟨σT1, σR2, σT2, σG2, σ2, j0, j1, j2, j3⟩
      · rw [j0, Option.bind_some, j1, j2, Option.bind_some]
        rw [bd4_s, if_neg one_ne_zero32, nm_s, nI_1]
        exact ih (c + 1) σR2 σT2 σG2 σ2 (by omega) j3 j4
      · refine Or.inr ⟨σR2, σT2, σG2, σ2, ?_, ?_, j3⟩
        · rw [j0, Option.bind_some, j1]
          rfl
        · rw [j2, Option.bind_some]
          exact j3.e148 (nB + d + 1)
    · refine Or.inl ⟨c, σR, σT, σG, σ, ?_, ?_, h, D⟩
      · rw [if_neg z, if_pos rfl]
      · rw [if_neg (fun q => z ((lg_cmp_eq _ _).mp q)), h.2.2.1, if_pos rfl]
end RC
