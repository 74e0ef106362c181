/-! PURE: a coin's numbers changed; pass, send -/
theorem p_lput (σL : MS) {c f : Nat} (h : 5 * c + f < 61) (v : Int32) : FL_put σL (nI c) (nI f) v = some (setA σL 3 (5 * c + f) v) := by
  unfold FL_put
  have e : (nI c * 5 + nI f : Int32) = nI (5 * c + f) := by
    rw [show (5 : Int32) = nI 5 from rfl, pk_mul, nI_add, Nat.mul_comm]
  rw [e, gd_nI h (by decide), nI_clamp (by omega)]
  rfl
theorem p_bec (σ : MS) {c f : Nat} (h : 75 + 6 * c + f < 147) (v : Int32) : FM_becomes σ (nI c) (nI f) v = some (setA σ 5 (75 + 6 * c + f) v) := by
  unfold FM_becomes
  have e : (75 + 6 * nI c + nI f : Int32) = nI (75 + 6 * c + f) := by
    rw [show (6 : Int32) = nI 6 from rfl, pk_mul, show (75 : Int32) = nI 75 from rfl, nI_add, nI_add]
  rw [e, gd_nI h (by decide), nI_clamp (by omega)]
  rfl
theorem p_isHolder (σ : MS) (x : Int32) : FM_isHolder σ x = some (if 0 ≤ x ∧ x ≤ σ.2 5 2 - 1 then 1 else 0) := by
  unfold FM_isHolder
  rw [gd_t (by decide), show Int32.toNatClampNeg 2 = 2 from by decide, show FM_in (Int32.toInt64 x) 0 (Int32.toInt64 (σ.2 5 2 - 1)) = _ from p_in x 0 (σ.2 5 2 - 1)]
  by_cases h : 0 ≤ x ∧ x ≤ σ.2 5 2 - 1
  · simp [h, gd]
  · simp [h, gd]
theorem RReal.upd {k : Nat} {a b c d : Int32} {w x y z g z' g' : Nat → Int32} (h : RReal k a b c d w x y z g) {j : Nat} (hj : j < 12) (hz : ∀ i, i < 61 → ¬ (5 * j ≤ i ∧ i < 5 * j + 5) → z' i = z i) (hg : ∀ i, i < 147 → ¬ (76 + 6 * j ≤ i ∧ i < 81 + 6 * j) → g' i = g i)
    (hc : (∀ f, f < 5 → z' (5 * j + f) = g' (76 + 6 * j + f)) ∧ (0 ≤ z' (5 * j) ∧ z' (5 * j) < c) ∧ (0 ≤ z' (5 * j + 1) ∧ z' (5 * j + 1) ≤ 400 + g 4) ∧ (z' (5 * j + 4) = 0 ∨ z' (5 * j + 4) = 1) ∧ RHow k (z' (5 * j + 2)) (z' (5 * j + 3)) (z' (5 * j + 4)) (y j) (w (8 * (x (z' (5 * j)).toNatClampNeg).toNatClampNeg))) : RReal k a b c d w x y z' g' := by
  have hcf := fun {j : Nat} (hj : j < 12) (hl : nI j < d) => h.cf hj hl
  obtain ⟨h1, ⟨b0, b2, b3, b4⟩, h3, h4, h5, h6, h7⟩ := h
  have G : ∀ i, i < 76 → g' i = g i := fun i hi => hg i (by omega) (by omega)
  refine ⟨h1, ⟨by rw [G 0 (by decide)]; exact b0, by rw [G 2 (by decide)]; exact b2, by rw [G 3 (by decide)]; exact b3, by rw [hz 60 (by decide) (by omega), G 4 (by decide)]; exact b4⟩, by rw [G 4 (by decide)]; exact h3, h4, fun ht p q hp hq => ?_, fun i hi hl => ?_, fun i hi hl => ?_⟩
  · rw [G _ (show 5 + 8 * p + q < 76 by omega)]
    exact h5 ht p q hp hq
  · rw [G _ (by omega)]
    exact h6 i hi hl
  · rw [G 4 (by decide)]
    obtain ⟨g1, g2, g3, g4, g5, g6⟩ := h7 i hi hl
    by_cases hij : i = j
    · subst hij
      obtain ⟨c1, c2, c3, c4, c5⟩ := hc
      exact ⟨⟨by rw [hg _ (by omega) (by omega)]; exact g1.1, g1.2⟩, c1, c2, c3, c4, c5⟩
    · refine ⟨⟨by rw [hg _ (by omega) (by omega)]; exact g1.1, g1.2⟩, fun f hf => ?_, ?_, ?_, ?_, ?_⟩
      · rw [hz _ (by omega) (by omega), hg _ (by omega) (by omega)]; exact g2 f hf
      · rw [hz _ (by omega) (by omega)]; exact g3
      · rw [hz _ (by omega) (by omega)]; exact g4
      · rw [hz _ (by omega) (by omega)]; exact g5
      · rw [hz _ (by omega) (by omega), hz _ (by omega) (by omega), hz _ (by omega) (by omega), hz _ (by omega) (by omega)]; exact g6
theorem sim_pass : Sim_pass Rel := by
  intro k σP σL σG σR σT σC σA σK ω ι σ a1 a2 hk h
  obtain ⟨ec, hco⟩ := h.coin
  have hm := Rel.mono _ _ _ _ _ _ _ _ _ _ _ _ h
  obtain ⟨-, -, -, ⟨et, hR⟩, hA, -⟩ := hm
  have hm := Rel.mono _ _ _ _ _ _ _ _ _ _ _ _ h
  have eh : σ.2 5 2 = σL.1 6 := hR.2.1.2.1.symm
  have hb := hR.2.2.1
  have M0 : FM_pass σ a1 a2 = (Option.bind (FM_isCoin (setF σ 0 0) a1) fun (r2 : Int32) => if r2 = 0 then (some ((-1000001), (setF σ 0 0))) else (Option.bind (FM_isHolder (setF σ 0 0) a2) fun (r4 : Int32) => if r4 = 0 then (some ((-1000001), (setF σ 0 0))) else (Option.bind (FM_of (setF σ 0 0) a1 1) fun (r6 : Int32) => if r6 = a2 then (some ((-1000001), (setF σ 0 0))) else (Option.bind (FM_of (setF σ 0 0) a1 3) fun (r8 : Int32) => if r8 = 0 then (gd (¬ (((69 + a2) : Int32) < 0 ∨ 147 ≤ Int32.toNatClampNeg (69 + a2))) (Option.bind (FM_townOf (setF σ 0 0) a1) fun (r11 : Int32) => if (σ.2 5 (Int32.toNatClampNeg (69 + a2))) = r11 then (Option.bind (FM_keep (setF σ 0 0)) fun (σ14 : MS) => Option.bind (FM_of σ14 a1 1) fun (r15 : Int32) => Option.bind (FM_becomes σ14 a1 1 a2) fun (σ17 : MS) => some (r15, σ17)) else (some ((-1000002), (setF σ 0 0))))) else (some ((-1000002), (setF σ 0 0))))))) := rfl
  by_cases hc : 0 ≤ a1 ∧ a1 ≤ σL.1 7 - 1
  · have M1 : FM_isCoin (setF σ 0 0) a1 = some 1 := by
      rw [p_isCoin, if_pos (by show 0 ≤ a1 ∧ a1 ≤ σ.2 5 3 - 1; rw [ec]; exact hc)]
    by_cases hd : 0 ≤ a2 ∧ a2 ≤ σL.1 6 - 1
    · have M2 : FM_isHolder (setF σ 0 0) a2 = some 1 := by
        rw [p_isHolder, if_pos (by show 0 ≤ a2 ∧ a2 ≤ σ.2 5 2 - 1; rw [eh]; exact hd)]
      obtain ⟨j, hj, rfl, hl⟩ := hco hc
      obtain ⟨p, hp, rfl, hpl⟩ := ixc (N := 6) (by decide) hb.2.2.1 hb.2.2.2.1 hd
      obtain ⟨q, t, C⟩ := RReal.cn (σ := setF σ 0 0) hR hj hl
      have h1 := told1 hR hl hj
      obtain ⟨⟨-, hq, ht, ht1, eq, etq⟩, ⟨a0, -⟩, ⟨o0, o1, o2, o3, o4, o5⟩, ⟨-, mt, -⟩, ⟨-, -, wi⟩, rh, hk5, hdu, hag⟩ := C
      have L0 : FP_pass σL σK (nI j) (nI p) = if nI p = nI q then some (-1000001, σL, σK) else if (if σL.2 3 (5 * j + 2) = 0 then (1 : Int32) else 0) = 0 then some (-1000002, σL, σK) else if σL.2 1 p = nI t then (Option.bind (FK_keep σK (vOf σL 3)) fun (τ13 : MS) => some (nI q, setA σL 3 (5 * j) (nI p), τ13)) else some (-1000002, σL, σK) := by
        unfold FP_pass
        rw [p_noCoin, if_pos hc, Option.bind_some, if_pos rfl, p_outside, if_pos hd, Option.bind_some, if_pos rfl, a0, Option.bind_some, wi, Option.bind_some, gd_nI hp (by decide), gd_nI hq (by decide), nI_clamp (by omega), nI_clamp (by omega), etq, show FL_put σL (nI j) 0 (nI p) = _ from p_lput σL (c := j) (f := 0) (by omega) (nI p)]
        rfl
      have M3 : FM_pass σ (nI j) (nI p) = if nI q = nI p then some (-1000001, setF σ 0 0) else if σL.2 3 (5 * j + 2) = 0 then (if σ.2 5 (69 + p) = nI t then (Option.bind (FM_keep (setF σ 0 0)) fun (σ14 : MS) => Option.bind (FM_of σ14 (nI j) 1) fun (r15 : Int32) => Option.bind (FM_becomes σ14 (nI j) 1 (nI p)) fun (σ17 : MS) => some (r15, σ17)) else some (-1000002, setF σ 0 0)) else some (-1000002, setF σ 0 0) := by
        rw [M0, M1, Option.bind_some, if_neg one_ne_zero32, M2, Option.bind_some, if_neg one_ne_zero32, o1, Option.bind_some, o3, Option.bind_some, show (69 + nI p : Int32) = nI (69 + p) from by rw [show (69 : Int32) = nI 69 from rfl, nI_add], gd_nI (by omega) (by decide), nI_clamp (by omega), mt, Option.bind_some]
      obtain ⟨tp1, tp2⟩ := hR.2.2.2.2.2.1 p hp hpl
      by_cases z1 : nI p = nI q
      · refine ⟨-1000001, σL, σK, setF σ 0 0, ?_, ?_, hm⟩
        · rw [L0, if_pos z1]
        · rw [M3, if_pos z1.symm]
      by_cases z2 : σL.2 3 (5 * j + 2) = 0
      · by_cases z3 : σL.2 1 p = nI t
        · obtain ⟨σK', w, ac, K1, K2, K3⟩ := p_keep (σ := setF σ 0 0) hA hR h1
          have ej : nI j = nI j := rfl
          refine ⟨nI q, setA σL 3 (5 * j) (nI p), σK', setA (setF (setR (setF σ 0 0) 8 w) 9 ac) 5 (75 + 6 * j + 1) (nI p), ?_, ?_, ?_⟩
          · rw [L0, if_neg z1, if_neg (by rw [if_pos z2]; decide), if_pos z3, K1]
            rfl
          · rw [M3, if_neg (fun z => z1 z.symm), if_pos z2, if_pos (by rw [← tp1]; exact z3), K2, Option.bind_some, show FM_of (setF (setR (setF σ 0 0) 8 w) 9 ac) (nI j) 1 = some (nI q) from o1, Option.bind_some, show FM_becomes (setF (setR (setF σ 0 0) 8 w) 9 ac) (nI j) 1 (nI p) = _ from p_bec _ (c := j) (f := 1) (by omega) (nI p)]
            rfl
          · refine h.kr (((SameM.F0 σ).trans (SameM.keep _ _ _)).trans (SameM.R5 _ _)) rfl hm.1 ?_ K3
            show RReal (k + 1) (σL.1 4) (σL.1 5) (σL.1 6) (σL.1 7) (σL.2 0) (σL.2 1) (σL.2 2) (upd (σL.2 3) (5 * j) (nI p)) (upd (σ.2 5) (75 + 6 * j + 1) (nI p))
            have hrel := (hR.2.2.2.2.2.2 j hj hl).2.1
            refine hR.upd hj (fun i _ hi => pk_un (by omega)) (fun i _ hi => pk_un (by omega)) ⟨fun f hf => ?_, ?_, ?_, ?_, ?_⟩
            · by_cases hf0 : f = 0
              · subst hf0
                rw [show 76 + 6 * j + 0 = 75 + 6 * j + 1 from by omega, Nat.add_zero, pk_us, pk_us]
              · rw [pk_un (by omega), pk_un (by omega)]
                exact hrel f hf
            · rw [pk_us]
              exact ⟨nI_pos' (by omega), hpl⟩
            · rw [pk_un (by omega)]; exact hag
            · rw [pk_un (by omega)]; exact hdu
            · rw [pk_us, pk_un (by omega), pk_un (by omega), pk_un (by omega), nI_clamp (by omega), z3, nI_clamp (by omega)]
              exact rh
        · refine ⟨-1000002, σL, σK, setF σ 0 0, ?_, ?_, hm⟩
          · rw [L0, if_neg z1, if_neg (by rw [if_pos z2]; decide), if_neg z3]
          · rw [M3, if_neg (fun z => z1 z.symm), if_pos z2, if_neg (by rw [← tp1]; exact z3)]
      · refine ⟨-1000002, σL, σK, setF σ 0 0, ?_, ?_, hm⟩
        · rw [L0, if_neg z1, if_pos (by rw [if_neg z2])]
        · rw [M3, if_neg (fun z => z1 z.symm), if_neg z2]
    · refine ⟨-1000001, σL, σK, setF σ 0 0, ?_, ?_, hm⟩
      · unfold FP_pass
        rw [p_noCoin, if_pos hc, Option.bind_some, if_pos rfl, p_outside, if_neg hd]
        rfl
      · rw [M0, M1, Option.bind_some, if_neg one_ne_zero32, p_isHolder, if_neg (by show ¬ (0 ≤ a2 ∧ a2 ≤ σ.2 5 2 - 1); rw [eh]; exact hd)]
        rfl
  · refine ⟨-1000001, σL, σK, setF σ 0 0, ?_, ?_, hm⟩
    · unfold FP_pass
      rw [p_noCoin, if_neg hc]
      rfl
    · rw [M0, p_isCoin, if_neg (by show ¬ (0 ≤ a1 ∧ a1 ≤ σ.2 5 3 - 1); rw [ec]; exact hc)]
      rfl
theorem p_may {k : Nat} {σL σ : MS} (h : RReal k (σL.1 4) (σL.1 5) (σL.1 6) (σL.1 7) (σL.2 0) (σL.2 1) (σL.2 2) (σL.2 3) (σ.2 5)) (h1 : σL.1 4 = 1) {j q t : Nat} (C : Cn k σL σ j q t) : FL_canGoHome σL (nI j) = some (if σL.2 3 (5 * j + 2) = 0 ∧ σL.2 0 (8 * t) < 1000000 then 1 else 0) ∧ FM_maySend σ (nI j) = some (if σL.2 3 (5 * j + 2) = 0 ∧ σL.2 0 (8 * t) < 1000000 then 1 else 0) := by
  have hw := (h.2.2.2.2.1 h1 t 0 C.1.2.2.1 (by decide)).1
  rw [Nat.add_zero, Nat.add_zero] at hw
  obtain ⟨⟨-, hq, ht, ht1, eq, etq⟩, -, ⟨o0, o1, o2, o3, o4, o5⟩, ⟨tl, mt, -⟩, ⟨-, -, wi⟩, -⟩ := C
  have D0 : FL_distance σL (nI t) 0 = some (if σL.2 0 (8 * t) < 1000000 then σL.2 0 (8 * t) else -1000000) := p_dist σL (a := t) (b := 0) ht (by decide)
  have f0 : FM_farOf σ (nI t) 0 = some (σ.2 5 (5 + 8 * t)) := p_farOf σ (a := t) (b := 0) ht (by decide)
  unfold FL_canGoHome FM_maySend
  rw [wi, o3, tl, mt]
  simp only [Option.bind_some, D0, f0]
  by_cases z1 : σL.2 3 (5 * j + 2) = 0
  · simp only [z1, if_true, true_and, one_ne_zero32, if_false]
    rcases hw.cases with ⟨w1, w2⟩ | ⟨w1, w2, w3⟩
    · simp [w1, w2]
    · simp only [w1, w2, if_true, if_false]
      have : ¬ σL.2 0 (8 * t) = -1000000 := by
        intro z
        obtain ⟨-, y, -⟩ := hw.low w1
        rw [z] at y
        exact absurd y (by decide)
      simp [this]
  · simp [z1]
/-- a coin sent home on both sides -/
theorem p_sendKept {k : Nat} {σL σK σ : MS} (hA : RActs k σL σK (σ.1 9) (σ.2 8)) (h : RReal k (σL.1 4) (σL.1 5) (σL.1 6) (σL.1 7) (σL.2 0) (σL.2 1) (σL.2 2) (σL.2 3) (σ.2 5)) (h1 : σL.1 4 = 1) {j q t : Nat} (hl : nI j < σL.1 7) (C : Cn k σL σ j q t) (hs : σL.2 3 (5 * j + 2) = 0 ∧ σL.2 0 (8 * t) < 1000000) : ∃ (r : Int32) (z : Nat → Int32) (σK' σ' : MS), FP_sendKept σL σK (nI j) = some (r, setR σL 3 z, σK') ∧ FM_sends σ (nI j) = some σ' ∧ FM_of σ' (nI j) 4 = some r ∧ SameM σ σ' ∧ (σ'.1 1 = σ.1 1 ∧ σ'.1 12 = σ.1 12) ∧ RReal k (σL.1 4) (σL.1 5) (σL.1 6) (σL.1 7) (σL.2 0) (σL.2 1) (σL.2 2) z (σ'.2 5) ∧ RActs k σL σK' (σ'.1 9) (σ'.2 8) := by
  have hw2 := h.2.2.2.2.1 h1 t 0 C.1.2.2.1 (by decide)
  have hw := hw2.1
  have hw1 := hw2.2.2 (by have := C.1.2.2.2.1; omega)
  rw [Nat.add_zero, Nat.add_zero] at hw
  rw [Nat.add_zero] at hw1
  have hrel := (h.2.2.2.2.2.2 j C.1.1 hl).2.1
  have hho := (h.2.2.2.2.2.2 j C.1.1 hl).2.2.1
  obtain ⟨⟨hj, hq, ht, ht1, eq, etq⟩, -, ⟨o0, o1, o2, o3, o4, o5⟩, ⟨tl, mt, -⟩, ⟨-, -, wi⟩, rh, hk5, hdu, hag⟩ := C
  obtain ⟨σK', w, ac, K1, K2, K3⟩ := p_keep hA h h1
  have D0 : FL_distance σL (nI t) 0 = some (if σL.2 0 (8 * t) < 1000000 then σL.2 0 (8 * t) else -1000000) := p_dist σL (a := t) (b := 0) ht (by decide)
  rw [if_pos hs.2] at D0
  have f0 : FM_farOf σ (nI t) 0 = some (σ.2 5 (5 + 8 * t)) := p_farOf σ (a := t) (b := 0) ht (by decide)
  obtain ⟨w3, w4, w5⟩ := hw.low hs.2
  rw [Int32.le_iff_toInt_le] at hw1
  have e1 : (1 : Int32).toInt = 1 := by decide
  have P1 : ∀ σ v, FL_put σ (nI j) 2 v = some (setA σ 3 (5 * j + 2) v) := fun σ v => p_lput σ (c := j) (f := 2) (by omega) v
  have P2 : ∀ σ v, FL_put σ (nI j) 3 v = some (setA σ 3 (5 * j + 3) v) := fun σ v => p_lput σ (c := j) (f := 3) (by omega) v
  have B1 : ∀ σ v, FM_becomes σ (nI j) 3 v = some (setA σ 5 (75 + 6 * j + 3) v) := fun σ v => p_bec σ (c := j) (f := 3) (by omega) v
  have B2 : ∀ σ v, FM_becomes σ (nI j) 4 v = some (setA σ 5 (75 + 6 * j + 4) v) := fun σ v => p_bec σ (c := j) (f := 4) (by omega) v
  have e2 : σ.2 5 (76 + 6 * j) = nI q := by
    have := hrel 0 (by decide)
    rw [Nat.add_zero, Nat.add_zero] at this
    rw [← this, eq]
  have e4 : σ.2 5 (69 + q) = nI t := by
    have := (h.2.2.2.2.2.1 q hq (by rw [← eq]; exact hho.2)).1
    rw [← this, etq]
  refine ⟨σL.2 0 (8 * t), upd (upd (σL.2 3) (5 * j + 2) 1) (5 * j + 3) (σL.2 0 (8 * t)), σK', setA (setA (setF (setR σ 8 w) 9 ac) 5 (75 + 6 * j + 3) 1) 5 (75 + 6 * j + 4) (σL.2 0 (8 * t)), ?_, ?_, ?_, ?_, ⟨rfl, rfl⟩, ?_, K3⟩
  · unfold FP_sendKept FL_startHome
    rw [K1, tl]
    simp only [Option.bind_some, D0, P1, P2]
    show some (σL.2 0 (8 * t), setR (setR σL 3 _) 3 _, σK') = _
    rw [setR_setR]
    rfl
  · unfold FM_sends
    rw [K2, Option.bind_some, B1, Option.bind_some, p_mtownOf _ hj hq (t := t) (by
      show upd (σ.2 5) (75 + 6 * j + 3) 1 (76 + 6 * j) = _
      rw [pk_un (by omega)]; exact e2) (by
      show upd (σ.2 5) (75 + 6 * j + 3) 1 (69 + q) = _
      rw [pk_un (by omega)]; exact e4), Option.bind_some, show FM_farOf (setA (setF (setR σ 8 w) 9 ac) 5 (75 + 6 * j + 3) 1) (nI t) 0 = _ from p_farOf _ (a := t) (b := 0) ht (by decide), Option.bind_some, B2, Option.bind_some]
    show some (setA _ 5 (75 + 6 * j + 4) (upd (σ.2 5) (75 + 6 * j + 3) 1 (5 + 8 * t + 0))) = _
    rw [pk_un (by omega), show 5 + 8 * t + 0 = 5 + 8 * t from rfl, ← w3]
  · rw [show FM_of (setA (setA (setF (setR σ 8 w) 9 ac) 5 (75 + 6 * j + 3) 1) 5 (75 + 6 * j + 4) (σL.2 0 (8 * t))) (nI j) 4 = _ from p_of _ (c := j) (f := 4) (by omega)]
    show some (upd (upd (σ.2 5) (75 + 6 * j + 3) 1) (75 + 6 * j + 4) (σL.2 0 (8 * t)) (75 + 6 * j + 4)) = _
    rw [pk_us]
  · exact ((SameM.keep σ w ac).trans (SameM.R5 _ _)).trans (SameM.R5 _ _)
  · show RReal k (σL.1 4) (σL.1 5) (σL.1 6) (σL.1 7) (σL.2 0) (σL.2 1) (σL.2 2) (upd (upd (σL.2 3) (5 * j + 2) 1) (5 * j + 3) (σL.2 0 (8 * t))) (upd (upd (σ.2 5) (75 + 6 * j + 3) 1) (75 + 6 * j + 4) (σL.2 0 (8 * t)))
    refine h.upd hj (fun i _ hi => by rw [pk_un (by omega), pk_un (by omega)]) (fun i _ hi => by rw [pk_un (by omega), pk_un (by omega)]) ⟨fun f hf => ?_, ?_, ?_, ?_, ?_⟩
    · by_cases f2 : f = 2
      · subst f2
        rw [show 76 + 6 * j + 2 = 75 + 6 * j + 3 from by omega, pk_un (show 5 * j + 2 ≠ 5 * j + 3 by omega), pk_us, pk_un (show 75 + 6 * j + 3 ≠ 75 + 6 * j + 4 by omega), pk_us]
      · by_cases f3 : f = 3
        · subst f3
          rw [show 76 + 6 * j + 3 = 75 + 6 * j + 4 from by omega, pk_us, pk_us]
        · rw [pk_un (by omega), pk_un (by omega), pk_un (by omega), pk_un (by omega)]
          exact hrel f hf
    · rw [pk_un (by omega), pk_un (by omega)]; exact hho
    · rw [pk_un (by omega), pk_un (by omega)]; exact hag
    · rw [pk_un (by omega), pk_un (by omega)]; exact hdu
    · rw [pk_us, pk_un (show 5 * j + 2 ≠ 5 * j + 3 by omega), pk_us, pk_un (show 5 * j ≠ 5 * j + 3 by omega), pk_un (show 5 * j ≠ 5 * j + 2 by omega), eq, nI_clamp (by omega), etq, nI_clamp (by omega)]
      refine Or.inr (Or.inl ⟨Or.inl rfl, by omega, by omega, hs.2⟩)
theorem sim_send : Sim_send Rel := by
  intro k σP σL σG σR σT σC σA σK ω ι σ a1 hk h
  obtain ⟨ec, hco⟩ := h.coin
  have hm := Rel.mono _ _ _ _ _ _ _ _ _ _ _ _ h
  obtain ⟨-, -, -, ⟨et, hR⟩, hA, -⟩ := hm
  have hm := Rel.mono _ _ _ _ _ _ _ _ _ _ _ _ h
  by_cases hc : 0 ≤ a1 ∧ a1 ≤ σL.1 7 - 1
  · have M1 : FM_isCoin (setF σ 0 0) a1 = some 1 := by
      rw [p_isCoin, if_pos (by show 0 ≤ a1 ∧ a1 ≤ σ.2 5 3 - 1; rw [ec]; exact hc)]
    obtain ⟨j, hj, rfl, hl⟩ := hco hc
    obtain ⟨q, t, C⟩ := RReal.cn (σ := setF σ 0 0) hR hj hl
    have h1 := told1 hR hl hj
    obtain ⟨y1, y2⟩ := p_may (σ := setF σ 0 0) hR h1 C
    by_cases hs : σL.2 3 (5 * j + 2) = 0 ∧ σL.2 0 (8 * t) < 1000000
    · rw [if_pos hs] at y1 y2
      obtain ⟨r, z, σK', σ', s1, s2, s3, s4, ⟨s5, s6⟩, s7, s8⟩ := p_sendKept (σ := setF σ 0 0) hA hR h1 hl C hs
      refine ⟨r, setR σL 3 z, σK', σ', ?_, ?_, ?_⟩
      · unfold FP_send
        rw [p_noCoin, if_pos hc, Option.bind_some, if_pos rfl, y1, Option.bind_some, if_neg one_ne_zero32, s1]
        rfl
      · unfold FM_send
        show Option.bind (FM_isCoin (setF σ 0 0) (nI j)) _ = _
        rw [M1, Option.bind_some, if_neg one_ne_zero32, y2, Option.bind_some, if_neg one_ne_zero32, s2, Option.bind_some, s3]
        rfl
      · refine h.kr ((SameM.F0 σ).trans s4) rfl ⟨by rw [s5]; exact hm.1.1, by rw [s6]; exact hm.1.2⟩ s7 s8
    · rw [if_neg hs] at y1 y2
      refine ⟨-1000002, σL, σK, setF σ 0 0, ?_, ?_, hm⟩
      · unfold FP_send
        rw [p_noCoin, if_pos hc, Option.bind_some, if_pos rfl, y1]
        rfl
      · unfold FM_send
        show Option.bind (FM_isCoin (setF σ 0 0) (nI j)) _ = _
        rw [M1, Option.bind_some, if_neg one_ne_zero32, y2]
        rfl
  · refine ⟨-1000001, σL, σK, setF σ 0 0, ?_, ?_, hm⟩
    · unfold FP_send
      rw [p_noCoin, if_neg hc]
      rfl
    · unfold FM_send
      show Option.bind (FM_isCoin (setF σ 0 0) a1) _ = _
      rw [p_isCoin, if_neg (by show ¬ (0 ≤ a1 ∧ a1 ≤ σ.2 5 3 - 1); rw [ec]; exact hc)]
      rfl
