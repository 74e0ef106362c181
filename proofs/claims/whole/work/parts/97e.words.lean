/-! PURE: realm: words and numbers -/
def wl (u : Nat → Nat) : Nat → Nat → List Nat
  | 0, _ => []
  | d + 1, k => u k :: wl u d (k + 1)
def zw : List (List Nat) := [[108, 97, 119], [114, 111, 97, 100], [104, 111, 108, 100, 101, 114], [99, 111, 105, 110], [103, 111, 108, 100], [115, 105, 108, 118, 101, 114], [99, 111, 112, 112, 101, 114], [102, 111, 114, 103, 101, 100], [111, 108, 100]]
theorem zw_ok : ∀ i, i < 9 → (zw.getD i []).length = zlen.getD i 0 ∧ zlen.getD i 0 < 8 ∧ (∀ x ∈ zw.getD i [], 1 ≤ x ∧ x < 256) ∧ ∀ k, k < zlen.getD i 0 → zch i (nI k) = nI ((zw.getD i []).getD k 0) ∧ (zw.getD i []).getD k 0 < 256 := by decide +kernel
theorem wl_len (u : Nat → Nat) : ∀ d k, (wl u d k).length = d := by
  intro d
  induction d with
  | zero => intro k; rfl
  | succ d ih => intro k; show (wl u d (k + 1)).length + 1 = d + 1; rw [ih]
theorem wl_mem {u : Nat → Nat} : ∀ d k x, x ∈ wl u d k → ∃ j, k ≤ j ∧ j < k + d ∧ x = u j := by
  intro d
  induction d with
  | zero => intro k x h; cases h
  | succ d ih =>
    intro k x h
    rcases List.mem_cons.mp h with z | z
    · exact ⟨k, Nat.le_refl _, by omega, z⟩
    · obtain ⟨j, h1, h2, h3⟩ := ih (k + 1) x z
      exact ⟨j, by omega, by omega, h3⟩
theorem drop_cons {l : List Nat} {k : Nat} (h : k < l.length) : l.drop k = l.getD k 0 :: l.drop (k + 1) := by
  rw [List.drop_eq_getElem_cons h]
  simp [List.getD, h]
theorem isw_loop {m : Nat} {u : Nat → Nat} {σT σ : MS} (h : TPu m u σT σ) {s i : Nat} (hi : i < 9) (hem : s + zlen.getD i 0 ≤ m) (hl : ∀ j, s ≤ j → j < s + zlen.getD i 0 → 97 ≤ u j ∧ u j ≤ 122) (e3 : σT.1 3 = nI s) (n : Nat) : ∀ (d k : Nat), k + d = zlen.getD i 0 → FT_isWord_28 i (n + d + 1) σT (nI k) = some (if wl u d (s + k) = (zw.getD i []).drop k then 1 else 0) := by
  have hm := h.1
  obtain ⟨q1, q2, q4, q3⟩ := zw_ok i hi
  have hL : FJ_length i = some (nI (zlen.getD i 0)) := gd_t hi
  intro d
  induction d with
  | zero =>
    intro k hk
    rw [FT_isWord_28, hL, Option.bind_some, if_pos (nI_le (by omega) (by omega)), List.drop_eq_nil_of_le (by omega), if_pos (show wl u 0 (s + k) = [] from rfl)]
  | succ d ih =>
    intro k hk
    obtain ⟨q5, q6⟩ := q3 k (by omega)
    have hj := hl (s + k) (by omega) (by omega)
    have hb := (h.2.2.2 (s + k) (by omega)).2.2.1 (by omega)
    have hC : FJ_charAt i (nI k) = some (nI ((zw.getD i []).getD k 0)) := by
      unfold FJ_charAt
      rw [gd_t ⟨hi, nI_pos (by omega), nI_lt (by omega) (by omega)⟩, q5]
    show FT_isWord_28 i ((n + d + 1) + 1) σT (nI k) = _
    rw [FT_isWord_28, hL, Option.bind_some, if_neg (nI_ge (by omega) (by omega)), e3, nI_add, gd_nI (N := 500) (by omega) (by decide), nI_clamp (by omega), hC, Option.bind_some, hb, drop_cons (l := zw.getD i []) (k := k) (by omega), show wl u (d + 1) (s + k) = u (s + k) :: wl u d (s + k + 1) from rfl]
    by_cases z : u (s + k) = (zw.getD i []).getD k 0
    · rw [if_pos (by rw [z])]
      simp only [nm]
      rw [nI_1, ih (k + 1) (by omega), z, show s + (k + 1) = s + k + 1 from rfl]
      simp only [List.cons.injEq, true_and]
    · rw [if_neg (fun e => z ((nI_eq (by omega) (by omega)).mp e)), if_neg (fun e => z (List.cons.inj e).1)]
theorem p_isWord {m : Nat} {u : Nat → Nat} {σT σ : MS} (h : TPu m u σT σ) {s e y : Nat} (hk : TK m u σT σ s e y) {i : Nat} (hi : i < 9) : FT_isWord σT i = some (if y = 1 ∧ wl u (e - s) s = zw.getD i [] then 1 else 0) := by
  have hm := h.1
  obtain ⟨h1, h2, h3, ⟨a1, a2, a3⟩, -, hl, -⟩ := hk
  obtain ⟨q1, q2, -, -⟩ := zw_ok i hi
  have hL : FJ_length i = some (nI (zlen.getD i 0)) := gd_t hi
  unfold FT_isWord
  rw [a3, a1, a2, pk_sub h1, hL]
  by_cases z : y = 1
  · rw [if_pos (by rw [z]; rfl), Option.bind_some]
    by_cases z2 : e - s = zlen.getD i 0
    · have := isw_loop h (s := s) hi (by omega) (fun j j1 j2 => hl z j j1 (by omega)) a1 (4999 - zlen.getD i 0) (zlen.getD i 0) 0 (by omega)
      rw [show 4999 - zlen.getD i 0 + zlen.getD i 0 + 1 = fuelN from by show _ = 5000; omega] at this
      rw [if_pos (by rw [z2]), show FT_isWord_28 i fuelN σT 0 = _ from this, Nat.add_zero, List.drop_zero, z2]
      simp only [z, true_and]
    · rw [if_neg (fun e => z2 ((nI_eq (by omega) (by omega)).mp e)), if_neg (fun e => z2 (by rw [← q1, ← e.2, wl_len]))]
  · rw [if_neg (show ¬ nI y = 1 from fun e => z ((nI_eq (a := y) (b := 1) (by omega) (by decide)).mp e)), if_neg (fun e => z e.1)]
def pkf (l : List Nat) (v : Nat) : Nat := l.foldl (fun v x => v * 256 + x) v
theorem name_push {v x : Nat} (hv : v < 2 ^ 50) (hx : x < 256) : ((lN v <<< (Int32.toInt64 8 &&& 63)) ||| Int32.toInt64 (nI x) : Int64) = lN (v * 256 + x) := by
  rw [nI_l (by omega)]
  apply Int64.toBitVec_inj.mp
  rw [Int64.toBitVec_or, Int64.toBitVec_shiftLeft, show (Int32.toInt64 8 &&& 63 : Int64).toBitVec.smod 64 = BitVec.ofNat 64 8 from by decide]
  apply BitVec.eq_of_toNat_eq
  have h1 : (lN v).toBitVec.toNat = v := Nat.mod_eq_of_lt (by omega)
  have h2 : (lN x).toBitVec.toNat = x := Nat.mod_eq_of_lt (by omega)
  have h3 : (lN (v * 256 + x)).toBitVec.toNat = v * 256 + x := Nat.mod_eq_of_lt (by omega)
  rw [BitVec.toNat_or, BitVec.shiftLeft_eq', BitVec.toNat_shiftLeft, h1, h2, h3, show (BitVec.ofNat 64 8).toNat = 8 from rfl, Nat.shiftLeft_eq, Nat.mod_eq_of_lt (by omega)]
  have := Nat.two_pow_add_eq_or_of_lt (i := 8) (b := x) (by omega) v
  rw [Nat.mul_comm v (2 ^ 8), ← this]
theorem name_loop {m : Nat} {u : Nat → Nat} {σT σ : MS} (h : TPu m u σT σ) {s e : Nat} (he : e ≤ m) (hs8 : e < s + 8) (hse : s ≤ e) (e15 : σ.1 15 = 2) (e16 : σ.1 16 = nI s) (e17 : σ.1 17 = nI e) (n : Nat) : ∀ (d k v : Nat), k + d = e → s ≤ k → v < 256 ^ (k - s) → FM_name_7 (n + d + 1) σ (lN v) (nI k) = FM_name_56 σ (lN (pkf (wl u d k) v)) := by
  have hm := h.1
  intro d
  induction d with
  | zero =>
    intro k v hk hs hv
    rw [FM_name_7, e17, if_pos (nI_le (by omega) (by omega))]
    rfl
  | succ d ih =>
    intro k v hk hs hv
    obtain ⟨b1, b2, -⟩ := h.2.2.2 k (by omega)
    have hp : 256 ^ (k - s) ≤ 256 ^ 6 := Nat.pow_le_pow_right (by decide) (by omega)
    have hp6 : 256 ^ 6 < 2 ^ 50 := by decide
    show FM_name_7 ((n + d + 1) + 1) σ (lN v) (nI k) = _
    rw [FM_name_7, e17, if_neg (nI_ge (by omega) (by omega)), e15, if_pos rfl, e16, pk_sub hse, if_neg (show ¬ (8 : Int32) ≤ nI (e - s) from nI_ge (b := 8) (by omega) (by decide)), gd_nI (N := 500) (by omega) (by decide), nI_clamp (by omega)]
    simp only [nm]
    rw [b2, name_push (by omega) b1, nI_1, ih (k + 1) (v * 256 + u k) (by omega) (by omega) (by
      rw [show k + 1 - s = (k - s) + 1 from by omega, Nat.pow_succ]
      omega)]
    rfl
theorem pr_inj : ∀ (l l' : List Nat), (∀ x ∈ l, 1 ≤ x ∧ x < 256) → (∀ x ∈ l', 1 ≤ x ∧ x < 256) → l.foldr (fun x v => v * 256 + x) 0 = l'.foldr (fun x v => v * 256 + x) 0 → l = l' := by
  intro l
  induction l with
  | nil =>
    intro l' _ h' e
    cases l' with
    | nil => rfl
    | cons x l' =>
      have := h' x List.mem_cons_self
      have e : 0 = l'.foldr (fun x v => v * 256 + x) 0 * 256 + x := e
      omega
  | cons x l ih =>
    intro l' h h' e
    have hx := h x List.mem_cons_self
    cases l' with
    | nil =>
      have e : l.foldr (fun x v => v * 256 + x) 0 * 256 + x = 0 := e
      omega
    | cons x' l' =>
      have hx' := h' x' List.mem_cons_self
      have e : l.foldr (fun x v => v * 256 + x) 0 * 256 + x = l'.foldr (fun x v => v * 256 + x) 0 * 256 + x' := e
      have e1 : x = x' := by omega
      have e2 : l.foldr (fun x v => v * 256 + x) 0 = l'.foldr (fun x v => v * 256 + x) 0 := by omega
      rw [e1, ih l' (fun x hx => h x (List.mem_cons_of_mem _ hx)) (fun x hx => h' x (List.mem_cons_of_mem _ hx)) e2]
theorem pkf_inj {l l' : List Nat} (h : ∀ x ∈ l, 1 ≤ x ∧ x < 256) (h' : ∀ x ∈ l', 1 ≤ x ∧ x < 256) (e : pkf l 0 = pkf l' 0) : l = l' := by
  have e1 : ∀ l : List Nat, pkf l 0 = l.reverse.foldr (fun x v => v * 256 + x) 0 := fun l => (List.foldr_reverse).symm
  rw [e1, e1] at e
  have := pr_inj l.reverse l'.reverse (fun x hx => h x (List.mem_reverse.mp hx)) (fun x hx => h' x (List.mem_reverse.mp hx)) e
  exact List.reverse_inj.mp this
theorem pkf_lt : ∀ (l : List Nat) (v k : Nat), (∀ x ∈ l, x < 256) → v < 256 ^ k → pkf l v < 256 ^ (k + l.length) := by
  intro l
  induction l with
  | nil => intro v k _ hv; exact hv
  | cons x l ih =>
    intro v k h hv
    have hx := h x List.mem_cons_self
    have := ih (v * 256 + x) (k + 1) (fun x hx => h x (List.mem_cons_of_mem _ hx)) (by rw [Nat.pow_succ]; omega)
    show pkf l (v * 256 + x) < 256 ^ (k + (l.length + 1))
    rw [show k + (l.length + 1) = k + 1 + l.length from by omega]
    exact this
def zc (i : Nat) : Int64 := lN (pkf (zw.getD i []) 0)
theorem zc_ne : ∀ i, i < 9 → ¬ (0 : Int64) = zc i := by decide +kernel
theorem zc_lt : ∀ i, i < 9 → pkf (zw.getD i []) 0 < 2 ^ 63 := by decide +kernel
theorem p_name {m : Nat} {u : Nat → Nat} {σT σ : MS} (h : TPu m u σT σ) {s e y : Nat} (hk : TK m u σT σ s e y) : ∃ v : Int64, FM_name σ = FM_name_56 σ v ∧ ∀ i, i < 9 → FT_isWord σT i = some (if v = zc i then 1 else 0) := by
  have hm := h.1
  have hW := fun i hi => p_isWord h hk (i := i) hi
  obtain ⟨h1, h2, h3, -, ⟨b1, b2, b3, b4⟩, hl, -⟩ := hk
  unfold FM_name
  simp only [nm]
  rw [b2]
  by_cases z : y = 1
  · have e15 : σ.1 15 = 2 := by rw [b4, z]; rfl
    by_cases z8 : e < s + 8
    · refine ⟨lN (pkf (wl u (e - s) s) 0), ?_, fun i hi => ?_⟩
      · have := name_loop h h2 z8 h1 e15 b2 b3 (4999 - (e - s)) (e - s) s 0 (by omega) (Nat.le_refl _) (Nat.pow_pos (by decide))
        rw [show 4999 - (e - s) + (e - s) + 1 = fuelN from by show _ = 5000; omega] at this
        exact this
      · rw [hW i hi]
        obtain ⟨q1, q2, q4, -⟩ := zw_ok i hi
        have hb : ∀ x ∈ wl u (e - s) s, 1 ≤ x ∧ x < 256 := fun x hx => by
          obtain ⟨j, j1, j2, rfl⟩ := wl_mem _ _ _ hx
          have := hl z j j1 (by omega)
          omega
        have hlt : pkf (wl u (e - s) s) 0 < 2 ^ 63 := by
          have := pkf_lt (wl u (e - s) s) 0 0 (fun x hx => (hb x hx).2) (by decide)
          rw [wl_len, Nat.zero_add] at this
          have h7 : 256 ^ (e - s) ≤ 256 ^ 7 := Nat.pow_le_pow_right (by decide) (by omega)
          have : (256 : Nat) ^ 7 < 2 ^ 63 := by decide
          omega
        by_cases q : wl u (e - s) s = zw.getD i []
        · rw [if_pos ⟨z, q⟩, if_pos (by rw [q]; rfl)]
        · rw [if_neg (fun e => q e.2), if_neg (show ¬ lN (pkf (wl u (e - s) s) 0) = zc i from fun e => q (pkf_inj hb q4 ((pk_lEQ hlt (zc_lt i hi)).mp e)))]
    · refine ⟨0, ?_, fun i hi => ?_⟩
      · show FM_name_7 (4999 + 1) σ 0 (nI s) = _
        rw [FM_name_7, b3, if_neg (nI_ge (by omega) (by omega)), e15, if_pos rfl, b2, pk_sub h1, if_pos (show (8 : Int32) ≤ nI (e - s) from nI_le (a := 8) (by omega) (by omega))]
      · rw [hW i hi, if_neg (zc_ne i hi), if_neg (fun q => by
          obtain ⟨q1, q2, -, -⟩ := zw_ok i hi
          have := congrArg List.length q.2
          rw [wl_len, q1] at this
          omega)]
  · refine ⟨0, ?_, fun i hi => ?_⟩
    · show FM_name_7 (4999 + 1) σ 0 (nI s) = _
      rw [FM_name_7, b3]
      by_cases q : e ≤ s
      · rw [if_pos (nI_le q (by omega))]
      · rw [if_neg (nI_ge (by omega) (by omega)), b4, if_neg (fun e => by
          have := (nI_eq (a := (y + 1) % 5) (b := 2) (by omega) (by decide)).mp e
          omega)]
    · rw [hW i hi, if_neg (zc_ne i hi), if_neg (fun q => z q.1)]
theorem fig_loop {m : Nat} {u : Nat → Nat} {σT σ : MS} (h : TPu m u σT σ) {s e : Nat} (he : e ≤ m) (hf : ∀ j, s ≤ j → j < e → 48 ≤ u j ∧ u j ≤ 57) (e15 : σ.1 15 = 3) (e17 : σ.1 17 = nI e) (n : Nat) : ∀ (d k v : Nat), k + d = e → s ≤ k → FM_figures_7 (n + d + 1) σ (nI v) (nI k) = some (nI (dg u d k v)) := by
  have hm := h.1
  intro d
  induction d with
  | zero =>
    intro k v hk hs
    rw [FM_figures_7, e17, if_pos (nI_le (by omega) (by omega))]
    rfl
  | succ d ih =>
    intro k v hk hs
    obtain ⟨b1, b2, -⟩ := h.2.2.2 k (by omega)
    have hd := hf k hs (by omega)
    show FM_figures_7 ((n + d + 1) + 1) σ (nI v) (nI k) = _
    rw [FM_figures_7, e17, if_neg (nI_ge (by omega) (by omega)), e15, if_pos rfl, gd_nI (N := 500) (by omega) (by decide), nI_clamp (by omega)]
    simp only [nm]
    rw [b2, show (10 * nI v + nI (u k) - 48 : Int32) = nI (10 * v + (u k - 48)) from by rw [show (10 : Int32) = nI 10 from rfl, pk_mul, nI_add, show (48 : Int32) = nI 48 from rfl, pk_sub (by omega), show 10 * v + u k - 48 = 10 * v + (u k - 48) from by omega], nI_1, ih (k + 1) _ (by omega) (by omega)]
    rfl
theorem dg_lt {u : Nat → Nat} {s e : Nat} (hf : ∀ j, s ≤ j → j < e → 48 ≤ u j ∧ u j ≤ 57) : ∀ (d k v : Nat), k + d = e → s ≤ k → dg u d k v < (v + 1) * 10 ^ d := by
  intro d
  induction d with
  | zero => intro k v _ _; show v < (v + 1) * 1; omega
  | succ d ih =>
    intro k v hk hs
    have hd := hf k hs (by omega)
    have h1 := ih (k + 1) (10 * v + (u k - 48)) (by omega) (by omega)
    have h2 : (10 * v + (u k - 48) + 1) * 10 ^ d ≤ (10 * (v + 1)) * 10 ^ d := Nat.mul_le_mul_right _ (by omega)
    have h3 : (10 * (v + 1)) * 10 ^ d = (v + 1) * 10 ^ (d + 1) := by rw [Nat.pow_succ, Nat.mul_comm 10 (v + 1), Nat.mul_assoc, Nat.mul_comm 10 (10 ^ d)]
    show dg u d (k + 1) (10 * v + (u k - 48)) < _
    omega
theorem p_figs {m : Nat} {u : Nat → Nat} {σT σ : MS} (h : TPu m u σT σ) {s e : Nat} (hk : TK m u σT σ s e 2) : ∃ v, v ≤ 999 ∧ σT.1 4 = nI v ∧ FM_figures σ = some (nI v) := by
  have hm := h.1
  obtain ⟨h1, h2, h3, -, ⟨b1, b2, b3, b4⟩, -, hf⟩ := hk
  obtain ⟨f1, f2, f3⟩ := hf rfl
  refine ⟨dg u (e - s) s 0, ?_, f3, ?_⟩
  · have := dg_lt f2 (e - s) s 0 (by omega) (Nat.le_refl _)
    have h10 : 10 ^ (e - s) ≤ 10 ^ 3 := Nat.pow_le_pow_right (by decide) (by omega)
    omega
  · unfold FM_figures
    simp only [nm]
    have := fig_loop h h2 f2 (by rw [b4]; rfl) b3 (4999 - (e - s)) (e - s) s 0 (by omega) (Nat.le_refl _)
    rw [show 4999 - (e - s) + (e - s) + 1 = fuelN from by show _ = 5000; omega] at this
    rw [b2]
    exact this
