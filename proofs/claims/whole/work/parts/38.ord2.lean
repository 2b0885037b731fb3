/-! TRACE -/
theorem kept_ {r : Nat} (h : r ≤ 1000) : imn (nI r) (nI 20) = nI (if 20 < r then 20 else r) := by
  unfold imn
  simp (disch := omega) only [lt_eq, bd_some, bv_some, li, pk_mul, nI_add, nIsub, nIlt, nIle, nIeq, nIdiv, nIrem, neg_, pos_, ib_nI, gd_true, nI_tn]
  split <;> rfl
theorem op_trace (n : Nat) (σ μ : Mem) (p1 : Int32) (hR : Rel (n + 1) σ μ) : ∃ (r : Int32) (σ1 μ1 : Mem), f_X11_trace p1 σ = some (r, σ1) ∧ f_X12_trace p1 μ = some (r, μ1) ∧ Rel n σ1 μ1 := by
  have hi := rel_idle n σ μ hR
  obtain ⟨-, Am, M, -, -, -, -, -, r, r1, r2, r3, r4⟩ := hR
  have hk : f_X0_kept σ = some (nI (if 20 < r then 20 else r), σ) := by
    unfold f_X0_kept
    rw [r2]
    exact congrArg (fun z => some (z, σ)) (kept_ r1)
  have hm : f_X12_trace p1 μ = f_X12_trace_20 p1 p1 (nI 0) (nI (if 20 < r then 20 else r)) μ := by
    unfold f_X12_trace
    rw [r3]
    simp (disch := omega) only [lt_eq, bd_some, bv_some, li, pk_mul, nI_add, nIsub, nIlt, nIle, nIeq, nIdiv, nIrem, neg_, pos_, ib_nI, gd_true, nI_tn]
    by_cases h : 20 ≤ r
    · rw [if_pos h]
      by_cases h2 : 20 < r
      · rw [if_pos h2]
      · rw [if_neg h2, show r = 20 by omega]
    · rw [if_neg h, if_neg (by omega)]
  have hm : f_X12_trace p1 μ = f_X12_trace_20 p1 p1 0 (nI (if 20 < r then 20 else r)) μ := hm
  obtain ⟨N, hN, hN2, hN3⟩ : ∃ N, (if 20 < r then 20 else r) = N ∧ N ≤ 20 ∧ N ≤ r := ⟨_, rfl, by split <;> omega, by split <;> omega⟩
  rw [hN] at hk hm
  by_cases h1 : wi p1 0 (nI N - 1) = 0
  · exact ⟨-1, σ, μ, by simp only [bd_some, bv_some, lt_eq, ↓reduceIte, f_X11_trace, hk, c_within, h1], by simp only [bd_some, bv_some, lt_eq, ↓reduceIte, hm, f_X12_trace_20, m_within, h1], hi⟩
  obtain ⟨i, hi1, rfl⟩ := wi_cnt h1 (by omega)
  refine ⟨gI σ 47 i, σ, μ, ?_, ?_, hi⟩
  · simp only [bd_some, bv_some, lt_eq, ↓reduceIte, f_X11_trace, hk, c_within, h1]
    simp (disch := omega) only [lt_eq, bd_some, bv_some, li, pk_mul, nI_add, nIsub, nIlt, nIle, nIeq, nIdiv, nIrem, neg_, pos_, ib_nI, gd_true, nI_tn]
  · simp only [bd_some, bv_some, lt_eq, ↓reduceIte, hm, f_X12_trace_20, m_within, h1]
    simp (disch := omega) only [lt_eq, bd_some, bv_some, li, pk_mul, nI_add, nIsub, nIlt, nIle, nIeq, nIdiv, nIrem, neg_, pos_, ib_nI, gd_true, nI_tn, r4 i (by omega) (by omega)]
/-! TAKE -/
theorem oP_le {q : Nat → Nat} {x O : Nat} (hO : O ≤ 6) (h : ∀ i, i < O → q i ≤ 99) : oP q x O ≤ 594 := by
  have : oP q x O ≤ O * 99 := sumN_le (fun i hi => by
    have := h i hi
    split <;> omega)
  omega
/-- the dearest of the first sets: its price, the set -/
def oT (h d q : Nat → Nat) (O : Nat) : Nat → Nat × Nat
  | 0 => (0, 0)
  | i + 1 => if oP q i O ≤ (oT h d q O i).1 then oT h d q O i else if oL h d i O = 0 then (oP q i O, i) else oT h d q O i
theorem oT_le {h d q : Nat → Nat} {O : Nat} (hO : O ≤ 6) (hq : ∀ i, i < O → q i ≤ 99) : ∀ i, (oT h d q O i).1 ≤ 594
  | 0 => by simp [oT]
  | i + 1 => by
    have e := oT_le (h := h) (d := d) hO hq i
    have e2 := oP_le (x := i) hO hq
    show (if _ then _ else _ : Nat × Nat).1 ≤ 594
    split
    · exact e
    · split
      · exact e2
      · exact e
theorem oT_1 (h d q : Nat → Nat) (O : Nat) : oT h d q O 1 = (0, 0) := by
  have e : oP q 0 O = 0 := (sumN_eq (fun o _ => if_neg (by simp))).trans (sumN_0 O)
  show (if oP q 0 O ≤ 0 then ((0, 0) : Nat × Nat) else _) = _
  rw [e]
  rfl
theorem oL_lt {h d : Nat → Nat} {x O : Nat} (hO : O ≤ 6) : oL h d x O < 2 ^ 6 := by
  apply Nat.lt_pow_two_of_testBit
  intro k hk
  unfold oL
  rw [maskN_tb, decide_eq_false (by omega), Bool.false_and]
theorem c_take {σ : Mem} {O : Nat} {h d q t : Nat → Nat} (hO : O ≤ 6) (g1 : gI σ 16 4 = nI O) (g2 : ∀ i, i < O → gI σ 17 i = nI (h i)) (g3 : ∀ i, i < O → gI σ 18 i = nI (d i)) (g4 : ∀ i, i < O → gI σ 20 i = nI (t i)) (g5 : ∀ i, i < O → gI σ 19 i = nI (q i)) (b1 : ∀ i, i < O → d i ≤ 99) (b2 : ∀ i, i < O → h i ≤ 20) (b3 : ∀ i, i < O → q i ≤ 99)
    (h1 : ∀ i j, i < j → j < O → d (t i) < d (t j) ∨ (d (t i) = d (t j) ∧ t i < t j)) (h2 : ∀ o, o < O → ∃ i, i < O ∧ t i = o) (h3 : ∀ i, i < O → t i < O) : f_X4_dearest σ = some (nI (oT h d q O (2 ^ O)).2, σ) := by
  have h26 : 2 ^ O ≤ 2 ^ 6 := Nat.pow_le_pow_right (by omega) hO
  have key : ∀ m i fu : Nat, i + m = 2 ^ O → m < fu → fx4 f_X4_dearest_6 fu (nI (oT h d q O i).1) (nI (oT h d q O i).2) (nI i) σ = some (nI (oT h d q O (2 ^ O)).2, σ) := by
    intro m
    induction m with
    | zero =>
      intro i fu hi hf
      obtain ⟨fu, rfl⟩ : ∃ z, fu = z + 1 := ⟨fu - 1, by omega⟩
      have hi : i = 2 ^ O := by omega
      show f_X4_dearest_6 _ _ _ _ _ = _
      unfold f_X4_dearest_6
      simp (disch := omega) only [lt_eq, bd_some, bv_some, li, pk_mul, nI_add, nIsub, nIlt, nIle, nIeq, nIdiv, nIrem, neg_, pos_, ib_nI, gd_true, nI_tn, gI_ss, gI_sk, gI_sc, ↓reduceIte, nIn1b, g1, shl1_]
      rw [hi]
    | succ m ih =>
      intro i fu hi hf
      obtain ⟨fu, rfl⟩ : ∃ z, fu = z + 1 := ⟨fu - 1, by omega⟩
      have e := ih (i + 1) fu (by omega) (by omega)
      have e2 : oT h d q O (i + 1) = if oP q i O ≤ (oT h d q O i).1 then oT h d q O i else if oL h d i O = 0 then (oP q i O, i) else oT h d q O i := rfl
      have c1 := oP_le (x := i) hO b3
      have c2 := oT_le (h := h) (d := d) hO b3 i
      have c3 := oL_lt (h := h) (d := d) (x := i) hO
      have cp := c_price (x := i) hO (by omega) g1 g5
      have cl := c_late (x := i) hO (by omega) g1 g2 g3 g4 b1 b2 h1 h2 h3
      have hno : ¬ 2 ^ O ≤ i := by omega
      show f_X4_dearest_6 _ _ _ _ _ = _
      unfold f_X4_dearest_6 f_X4_dearest_42
      by_cases k1 : oP q i O ≤ (oT h d q O i).1
      · rw [if_pos k1] at e2
        rw [e2] at e
        simp (disch := omega) only [lt_eq, bd_some, bv_some, li, pk_mul, nI_add, nIsub, nIlt, nIle, nIeq, nIdiv, nIrem, neg_, pos_, ib_nI, gd_true, nI_tn, gI_ss, gI_sk, gI_sc, ↓reduceIte, nIn1b, g1, shl1_, cp, hno, k1]
        exact e
      · rw [if_neg k1] at e2
        by_cases k2 : oL h d i O = 0
        · rw [if_pos k2] at e2
          rw [e2] at e
          simp (disch := omega) only [lt_eq, bd_some, bv_some, li, pk_mul, nI_add, nIsub, nIlt, nIle, nIeq, nIdiv, nIrem, neg_, pos_, ib_nI, gd_true, nI_tn, gI_ss, gI_sk, gI_sc, ↓reduceIte, nIn1b, g1, shl1_, cp, hno, k1, cl, k2]
          exact e
        · rw [if_neg k2] at e2
          rw [e2] at e
          simp (disch := omega) only [lt_eq, bd_some, bv_some, li, pk_mul, nI_add, nIsub, nIlt, nIle, nIeq, nIdiv, nIrem, neg_, pos_, ib_nI, gd_true, nI_tn, gI_ss, gI_sk, gI_sc, ↓reduceIte, nIn1b, g1, shl1_, cp, hno, k1, cl, k2]
          exact e
  have hf : 64 < FU := by decide
  exact key (2 ^ O) 0 FU (by omega) (by omega)
theorem m_takeIn {μ : Mem} {O x m v : Nat} {h d q : Nat → Nat} {k6 : Int32 → Int32 → Int32 → Mem → Option (Int32 × Mem)} (hO : O ≤ 6) (hx : x < 64) (hv : v ≤ 594) (g1 : gI μ 1 3 = nI O) (g2 : ∀ i, i < O → gI μ 1 (1037 + i) = nI (h i)) (g3 : ∀ i, i < O → gI μ 1 (1043 + i) = nI (d i)) (g4 : ∀ i, i < O → gI μ 1 (1049 + i) = nI (q i)) (b1 : ∀ i, i < O → d i ≤ 99) (b2 : ∀ i, i < O → h i ≤ 20) (b3 : ∀ i, i < O → q i ≤ 99) :
    ∀ k i fu : Nat, i + k = O → k < fu → fx6 (f_X12_take_24 k6) fu (nI m) (nI v) (nI x) (nI (oP q x i)) (nI i) μ = if oP q x O ≤ v then k6 (nI m) (nI v) (nI (x + 1)) μ else if oL h d x O = 0 then k6 (nI x) (nI (oP q x O)) (nI (x + 1)) μ else k6 (nI m) (nI v) (nI (x + 1)) μ := by
  intro k
  induction k with
  | zero =>
    intro i fu hi hf
    obtain ⟨fu, rfl⟩ : ∃ z, fu = z + 1 := ⟨fu - 1, by omega⟩
    have hi : i = O := by omega
    subst hi
    have c1 := oP_le (x := x) hO b3
    have c3 := oL_lt (h := h) (d := d) (x := x) hO
    have ml := m_lates (μ := μ) (x := x) hO (by omega) g1 g2 g3 b1 b2
    show f_X12_take_24 _ _ _ _ _ _ _ _ = _
    unfold f_X12_take_24 f_X12_take_89 f_X12_take_90 f_X12_take_102 f_X12_take_114
    by_cases k1 : oP q x i ≤ v
    · simp (disch := omega) only [lt_eq, bd_some, bv_some, li, pk_mul, nI_add, nIsub, nIlt, nIle, nIeq, nIdiv, nIrem, neg_, pos_, ib_nI, gd_true, nI_tn, gI_ss, gI_sk, gI_sc, ↓reduceIte, nIn1b, g1, k1]
    · by_cases k2 : oL h d x i = 0
      · simp (disch := omega) only [lt_eq, bd_some, bv_some, li, pk_mul, nI_add, nIsub, nIlt, nIle, nIeq, nIdiv, nIrem, neg_, pos_, ib_nI, gd_true, nI_tn, gI_ss, gI_sk, gI_sc, ↓reduceIte, nIn1b, g1, k1, ml, k2]
      · simp (disch := omega) only [lt_eq, bd_some, bv_some, li, pk_mul, nI_add, nIsub, nIlt, nIle, nIeq, nIdiv, nIrem, neg_, pos_, ib_nI, gd_true, nI_tn, gI_ss, gI_sk, gI_sc, ↓reduceIte, nIn1b, g1, k1, ml, k2]
  | succ k ih =>
    intro i fu hi hf
    obtain ⟨fu, rfl⟩ : ∃ z, fu = z + 1 := ⟨fu - 1, by omega⟩
    have e := ih (i + 1) fu (by omega) (by omega)
    have e2 : oP q x (i + 1) = oP q x i + (if x.testBit i = true then q i else 0) := rfl
    rw [← e]
    show f_X12_take_24 _ (fx6 (f_X12_take_24 k6) fu) _ _ _ _ _ _ = _
    generalize fx6 (f_X12_take_24 k6) fu = kk
    unfold f_X12_take_24 f_X12_take_62
    by_cases hb : x.testBit i = true
    · rw [if_pos hb] at e2
      rw [e2]
      simp (disch := omega) only [lt_eq, bd_some, bv_some, li, pk_mul, nI_add, nIsub, nIlt, nIle, nIeq, nIdiv, nIrem, neg_, pos_, ib_nI, gd_true, nI_tn, gI_ss, gI_sk, gI_sc, ↓reduceIte, nIn1b, g1, bit_, hb, g4 i (by omega)]
    · rw [if_neg hb] at e2
      rw [e2]
      simp (disch := omega) only [lt_eq, bd_some, bv_some, li, pk_mul, nI_add, nIsub, nIlt, nIle, nIeq, nIdiv, nIrem, neg_, pos_, ib_nI, gd_true, nI_tn, gI_ss, gI_sk, gI_sc, ↓reduceIte, nIn1b, g1, bit_, hb, Bool.false_eq_true]
theorem m_take {μ : Mem} {O : Nat} {h d q : Nat → Nat} (hO : O ≤ 6) (g1 : gI μ 1 3 = nI O) (g2 : ∀ i, i < O → gI μ 1 (1037 + i) = nI (h i)) (g3 : ∀ i, i < O → gI μ 1 (1043 + i) = nI (d i)) (g4 : ∀ i, i < O → gI μ 1 (1049 + i) = nI (q i)) (b1 : ∀ i, i < O → d i ≤ 99) (b2 : ∀ i, i < O → h i ≤ 20) (b3 : ∀ i, i < O → q i ≤ 99) : f_X12_take μ = some (nI (oT h d q O (2 ^ O)).2, μ) := by
  have h26 : 2 ^ O ≤ 2 ^ 6 := Nat.pow_le_pow_right (by omega) hO
  have h11 : 1 ≤ 2 ^ O := Nat.one_le_two_pow
  have key : ∀ m i fu : Nat, i + m = 2 ^ O → m < fu → fx4 f_X12_take_6 fu (nI (oT h d q O i).2) (nI (oT h d q O i).1) (nI i) μ = some (nI (oT h d q O (2 ^ O)).2, μ) := by
    intro m
    induction m with
    | zero =>
      intro i fu hi hf
      obtain ⟨fu, rfl⟩ : ∃ z, fu = z + 1 := ⟨fu - 1, by omega⟩
      have hi : i = 2 ^ O := by omega
      show f_X12_take_6 _ _ _ _ _ = _
      unfold f_X12_take_6
      simp (disch := omega) only [lt_eq, bd_some, bv_some, li, pk_mul, nI_add, nIsub, nIlt, nIle, nIeq, nIdiv, nIrem, neg_, pos_, ib_nI, gd_true, nI_tn, gI_ss, gI_sk, gI_sc, ↓reduceIte, nIn1b, g1, shl1_]
      rw [hi]
    | succ m ih =>
      intro i fu hi hf
      obtain ⟨fu, rfl⟩ : ∃ z, fu = z + 1 := ⟨fu - 1, by omega⟩
      have e := ih (i + 1) fu (by omega) (by omega)
      have e2 : oT h d q O (i + 1) = if oP q i O ≤ (oT h d q O i).1 then oT h d q O i else if oL h d i O = 0 then (oP q i O, i) else oT h d q O i := rfl
      have c2 := oT_le (h := h) (d := d) hO b3 i
      have hno : ¬ 2 ^ O ≤ i := by omega
      have hf : 6 < FU := by decide
      have inn := m_takeIn (x := i) (m := (oT h d q O i).2) (v := (oT h d q O i).1) (k6 := fx4 f_X12_take_6 fu) hO (by omega) c2 g1 g2 g3 g4 b1 b2 b3 O 0 FU (by omega) (by omega)
      have inn : fx6 (f_X12_take_24 (fx4 f_X12_take_6 fu)) FU (nI (oT h d q O i).2) (nI (oT h d q O i).1) (nI i) (nI 0) (nI 0) μ = _ := inn
      show f_X12_take_6 (fx4 f_X12_take_6 fu) _ _ _ _ = _
      generalize fx4 f_X12_take_6 fu = kk at e inn ⊢
      unfold f_X12_take_6
      simp (disch := omega) only [lt_eq, bd_some, bv_some, li, pk_mul, nI_add, nIsub, nIlt, nIle, nIeq, nIdiv, nIrem, neg_, pos_, ib_nI, gd_true, nI_tn, gI_ss, gI_sk, gI_sc, ↓reduceIte, nIn1b, g1, shl1_, hno, inn]
      by_cases k1 : oP q i O ≤ (oT h d q O i).1
      · rw [if_pos k1] at e2
        rw [e2] at e
        rw [if_pos k1]
        exact e
      · rw [if_neg k1] at e2
        rw [if_neg k1]
        by_cases k2 : oL h d i O = 0
        · rw [if_pos k2] at e2
          rw [e2] at e
          rw [if_pos k2]
          exact e
        · rw [if_neg k2] at e2
          rw [e2] at e
          rw [if_neg k2]
          exact e
  have hf : 64 < FU := by decide
  have k := key (2 ^ O - 1) 1 FU (by omega) (by omega)
  rw [oT_1] at k
  exact k
theorem op_take (n : Nat) (σ μ : Mem) (hR : Rel (n + 1) σ μ) : ∃ (r : Int32) (σ1 μ1 : Mem), f_X11_take σ = some (r, σ1) ∧ f_X12_take μ = some (r, μ1) ∧ Rel n σ1 μ1 := by
  have hi := rel_idle n σ μ hR
  obtain ⟨hn, Am, M, ⟨g1, g2, g3, g4, g5, g6, g7, g8, ⟨d1, O, d2, d3, h, d, q, d4, t, d5, d6, d7⟩, g10⟩, hH, hI, hp, hm, ha⟩ := hR
  have d1 : gI σ 16 4 = nI O := d1.trans d3
  have d3 : gI μ 1 3 = nI O := d3
  have cl := c_take (σ := σ) (t := t) (h := h) (d := d) (q := q) d2 d1 (fun i hi => (d4 i hi).1) (fun i hi => (d4 i hi).2.2.1) (fun i hi => (d5 i hi).1) (fun i hi => (d4 i hi).2.2.2.2.1) (fun i hi => (d4 i hi).2.2.2.2.2.2.2.2.2.1) (fun i hi => (d4 i hi).2.2.2.2.2.2.2.1) (fun i hi => (d4 i hi).2.2.2.2.2.2.2.2.2.2) d6 d7 (fun i hi => (d5 i hi).2)
  have ml := m_take (μ := μ) (h := h) (d := d) (q := q) d2 d3 (fun i hi => (d4 i hi).2.1) (fun i hi => (d4 i hi).2.2.2.1) (fun i hi => (d4 i hi).2.2.2.2.2.1) (fun i hi => (d4 i hi).2.2.2.2.2.2.2.2.2.1) (fun i hi => (d4 i hi).2.2.2.2.2.2.2.1) (fun i hi => (d4 i hi).2.2.2.2.2.2.2.2.2.2)
  exact ⟨_, σ, μ, by simp only [bd_some, bv_some, lt_eq, ↓reduceIte, f_X11_take, cl], ml, hi⟩
