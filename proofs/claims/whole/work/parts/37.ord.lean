/-! ORDERS: what a set x of them brings, hours up to one, which are late -/
def oP (q : Nat → Nat) (x : Nat) : Nat → Nat := sumN (fun o => if x.testBit o = true then q o else 0)
def oR (h d : Nat → Nat) (x O o : Nat) : Nat := sumN (fun j => if x.testBit j = true ∧ (d j < d o ∨ (d j = d o ∧ j ≤ o)) then h j else 0) O
def oLb (h d : Nat → Nat) (x O o : Nat) : Bool := x.testBit o && decide (d o < oR h d x O o)
def oL (h d : Nat → Nat) (x O : Nat) : Nat := maskN (oLb h d x O) O
theorem c_price {σ : Mem} {O x : Nat} {q : Nat → Nat} (hO : O ≤ 6) (hx : x < 2 ^ 31) (h1 : gI σ 16 4 = nI O) (h2 : ∀ i, i < O → gI σ 19 i = nI (q i)) : f_X4_priceOf (nI x) σ = some (nI (oP q x O), σ) := by
  have key : ∀ m i fu : Nat, i + m = O → m < fu → fx4 f_X4_priceOf_4 fu (nI x) (nI (oP q x i)) (nI i) σ = some (nI (oP q x O), σ) := by
    intro m
    induction m with
    | zero =>
      intro i fu hi hf
      obtain ⟨fu, rfl⟩ : ∃ z, fu = z + 1 := ⟨fu - 1, by omega⟩
      have hi : i = O := by omega
      subst hi
      show f_X4_priceOf_4 _ _ _ _ _ = _
      unfold f_X4_priceOf_4
      simp (disch := omega) only [lt_eq, bd_some, bv_some, li, pk_mul, nI_add, nIsub, nIlt, nIle, nIeq, nIdiv, nIrem, neg_, pos_, ib_nI, gd_true, nI_tn, gI_ss, gI_sk, gI_sc, ↓reduceIte, nIn1b, h1]
    | succ m ih =>
      intro i fu hi hf
      obtain ⟨fu, rfl⟩ : ∃ z, fu = z + 1 := ⟨fu - 1, by omega⟩
      have e := ih (i + 1) fu (by omega) (by omega)
      have e2 : oP q x (i + 1) = oP q x i + (if x.testBit i = true then q i else 0) := rfl
      show f_X4_priceOf_4 _ _ _ _ _ = _
      unfold f_X4_priceOf_4 f_X4_priceOf_30
      by_cases hb : x.testBit i = true
      · rw [if_pos hb] at e2
        rw [e2] at e
        simp (disch := omega) only [lt_eq, bd_some, bv_some, li, pk_mul, nI_add, nIsub, nIlt, nIle, nIeq, nIdiv, nIrem, neg_, pos_, ib_nI, gd_true, nI_tn, gI_ss, gI_sk, gI_sc, ↓reduceIte, nIn1b, h1, bit_, hb, h2 i (by omega)]
        exact e
      · rw [if_neg hb] at e2
        rw [e2] at e
        simp (disch := omega) only [lt_eq, bd_some, bv_some, li, pk_mul, nI_add, nIsub, nIlt, nIle, nIeq, nIdiv, nIrem, neg_, pos_, ib_nI, gd_true, nI_tn, gI_ss, gI_sk, gI_sc, ↓reduceIte, nIn1b, h1, bit_, hb]
        exact e
  have hf : 6 < FU := by decide
  exact key O 0 FU (by omega) (by omega)
theorem m_ready {μ : Mem} {O x o : Nat} {h d : Nat → Nat} (hO : O ≤ 6) (ho : o < O) (hx : x < 2 ^ 31) (h1 : gI μ 1 3 = nI O) (h2 : ∀ i, i < O → gI μ 1 (1037 + i) = nI (h i)) (h3 : ∀ i, i < O → gI μ 1 (1043 + i) = nI (d i)) (h4 : ∀ i, i < O → d i ≤ 99) : f_X12_ready (nI x) (nI o) μ = some (nI (oR h d x O o), μ) := by
  have key : ∀ m i fu : Nat, i + m = O → m < fu → fx5 f_X12_ready_5 fu (nI x) (nI o) (nI (oR h d x i o)) (nI i) μ = some (nI (oR h d x O o), μ) := by
    intro m
    induction m with
    | zero =>
      intro i fu hi hf
      obtain ⟨fu, rfl⟩ : ∃ z, fu = z + 1 := ⟨fu - 1, by omega⟩
      have hi : i = O := by omega
      subst hi
      show f_X12_ready_5 _ _ _ _ _ _ = _
      unfold f_X12_ready_5
      simp (disch := omega) only [lt_eq, bd_some, bv_some, li, pk_mul, nI_add, nIsub, nIlt, nIle, nIeq, nIdiv, nIrem, neg_, pos_, ib_nI, gd_true, nI_tn, gI_ss, gI_sk, gI_sc, ↓reduceIte, nIn1b, h1]
    | succ m ih =>
      intro i fu hi hf
      obtain ⟨fu, rfl⟩ : ∃ z, fu = z + 1 := ⟨fu - 1, by omega⟩
      have e := ih (i + 1) fu (by omega) (by omega)
      have e2 : oR h d x (i + 1) o = oR h d x i o + (if x.testBit i = true ∧ (d i < d o ∨ (d i = d o ∧ i ≤ o)) then h i else 0) := rfl
      have b1 := h4 i (by omega)
      have b2 := h4 o ho
      show f_X12_ready_5 _ _ _ _ _ _ = _
      have fin : ∀ s0 : Nat, (s0 = 0 ∨ s0 = 1) → (s0 = 1 ↔ (d i < d o ∨ (d i = d o ∧ i ≤ o))) → f_X12_ready_75 (fx5 f_X12_ready_5 fu) (nI x) (nI o) (nI (oR h d x i o)) (nI i) (nI s0) μ = some (nI (oR h d x O o), μ) := by
        intro s0 hs hs2
        unfold f_X12_ready_75 f_X12_ready_107 f_X12_ready_108
        by_cases hb : x.testBit i = true
        · rcases hs with rfl | rfl
          · have hn : ¬ (x.testBit i = true ∧ (d i < d o ∨ (d i = d o ∧ i ≤ o))) := by
              rintro ⟨-, q⟩
              have := hs2.mpr q
              omega
            rw [if_neg hn] at e2
            rw [e2] at e
            simp (disch := omega) only [lt_eq, bd_some, bv_some, li, pk_mul, nI_add, nIsub, nIlt, nIle, nIeq, nIdiv, nIrem, neg_, pos_, ib_nI, gd_true, nI_tn, gI_ss, gI_sk, gI_sc, ↓reduceIte, nIn1b, bit_, hb]
            exact e
          · have hn : (x.testBit i = true ∧ (d i < d o ∨ (d i = d o ∧ i ≤ o))) := ⟨hb, hs2.mp rfl⟩
            rw [if_pos hn] at e2
            rw [e2] at e
            simp (disch := omega) only [lt_eq, bd_some, bv_some, li, pk_mul, nI_add, nIsub, nIlt, nIle, nIeq, nIdiv, nIrem, neg_, pos_, ib_nI, gd_true, nI_tn, gI_ss, gI_sk, gI_sc, ↓reduceIte, nIn1b, bit_, hb, h2 i (by omega)]
            exact e
        · have hn : ¬ (x.testBit i = true ∧ (d i < d o ∨ (d i = d o ∧ i ≤ o))) := fun q => hb q.1
          rw [if_neg hn] at e2
          rw [e2] at e
          simp (disch := omega) only [lt_eq, bd_some, bv_some, li, pk_mul, nI_add, nIsub, nIlt, nIle, nIeq, nIdiv, nIrem, neg_, pos_, ib_nI, gd_true, nI_tn, gI_ss, gI_sk, gI_sc, ↓reduceIte, nIn1b, bit_, hb]
          exact e
      unfold f_X12_ready_5 f_X12_ready_70 f_X12_ready_74
      have f0 := fin 0 (Or.inl rfl)
      have f1 := fin 1 (Or.inr rfl)
      simp (disch := omega) only [lt_eq, bd_some, bv_some, li, pk_mul, nI_add, nIsub, nIlt, nIle, nIeq, nIdiv, nIrem, neg_, pos_, ib_nI, gd_true, nI_tn, gI_ss, gI_sk, gI_sc, ↓reduceIte, nIn1b, h1, h3 i (by omega), h3 o ho]
      by_cases g1 : d i < d o
      · rw [if_pos g1]
        exact f1 (by simp [g1])
      · rw [if_neg g1]
        by_cases g2 : d i = d o
        · rw [if_pos g2]
          by_cases g3 : o < i
          · rw [if_pos g3]
            exact f0 (by omega)
          · rw [if_neg g3]
            exact f1 (by omega)
        · rw [if_neg g2]
          exact f0 (by omega)
  have hf : 6 < FU := by decide
  exact key O 0 FU (by omega) (by omega)
theorem oR_le {h d : Nat → Nat} {x O o : Nat} (hO : O ≤ 6) (h4 : ∀ i, i < O → h i ≤ 20) : oR h d x O o ≤ 120 := by
  have : oR h d x O o ≤ O * 20 := sumN_le (fun i hi => by
    have := h4 i hi
    split <;> omega)
  omega
theorem m_lates {μ : Mem} {O x : Nat} {h d : Nat → Nat} (hO : O ≤ 6) (hx : x < 2 ^ 31) (h1 : gI μ 1 3 = nI O) (h2 : ∀ i, i < O → gI μ 1 (1037 + i) = nI (h i)) (h3 : ∀ i, i < O → gI μ 1 (1043 + i) = nI (d i)) (h4 : ∀ i, i < O → d i ≤ 99) (h5 : ∀ i, i < O → h i ≤ 20) : f_X12_lates (nI x) μ = some (nI (oL h d x O), μ) := by
  have key : ∀ m i fu : Nat, i + m = O → m < fu → fx4 f_X12_lates_4 fu (nI x) (nI (maskN (oLb h d x O) i)) (nI i) μ = some (nI (oL h d x O), μ) := by
    intro m
    induction m with
    | zero =>
      intro i fu hi hf
      obtain ⟨fu, rfl⟩ : ∃ z, fu = z + 1 := ⟨fu - 1, by omega⟩
      have hi : i = O := by omega
      subst hi
      show f_X12_lates_4 _ _ _ _ _ = _
      unfold f_X12_lates_4
      simp (disch := omega) only [lt_eq, bd_some, bv_some, li, pk_mul, nI_add, nIsub, nIlt, nIle, nIeq, nIdiv, nIrem, neg_, pos_, ib_nI, gd_true, nI_tn, gI_ss, gI_sk, gI_sc, ↓reduceIte, nIn1b, h1]
      rfl
    | succ m ih =>
      intro i fu hi hf
      obtain ⟨fu, rfl⟩ : ∃ z, fu = z + 1 := ⟨fu - 1, by omega⟩
      have e := ih (i + 1) fu (by omega) (by omega)
      have e2 : maskN (oLb h d x O) (i + 1) = if oLb h d x O i = true then maskN (oLb h d x O) i ||| 2 ^ i else maskN (oLb h d x O) i := rfl
      have b1 := h4 i (by omega)
      have b2 := oR_le (h := h) (d := d) (x := x) (o := i) hO h5
      show f_X12_lates_4 _ _ _ _ _ = _
      unfold f_X12_lates_4 f_X12_lates_49 f_X12_lates_50
      by_cases hb : x.testBit i = true
      · by_cases hl : oR h d x O i ≤ d i
        · have hn : ¬ oLb h d x O i = true := by
            unfold oLb
            rw [hb, decide_eq_false (by omega)]
            decide
          rw [if_neg hn] at e2
          rw [e2] at e
          simp (disch := omega) only [lt_eq, bd_some, bv_some, li, pk_mul, nI_add, nIsub, nIlt, nIle, nIeq, nIdiv, nIrem, neg_, pos_, ib_nI, gd_true, nI_tn, gI_ss, gI_sk, gI_sc, ↓reduceIte, nIn1b, h1, bit_, hb, h3 i (by omega), m_ready hO (show i < O by omega) hx h1 h2 h3 h4, nIor, Nat.or_zero]
          exact e
        · have hn : oLb h d x O i = true := by
            unfold oLb
            rw [hb, decide_eq_true (by omega)]
            rfl
          rw [if_pos hn] at e2
          rw [e2] at e
          simp (disch := omega) only [lt_eq, bd_some, bv_some, li, pk_mul, nI_add, nIsub, nIlt, nIle, nIeq, nIdiv, nIrem, neg_, pos_, ib_nI, gd_true, nI_tn, gI_ss, gI_sk, gI_sc, ↓reduceIte, nIn1b, h1, bit_, hb, h3 i (by omega), m_ready hO (show i < O by omega) hx h1 h2 h3 h4, shl1_, nIor]
          exact e
      · have hn : ¬ oLb h d x O i = true := by
          unfold oLb
          rw [Bool.eq_false_iff.mpr hb, Bool.false_and]
          decide
        rw [if_neg hn] at e2
        rw [e2] at e
        simp (disch := omega) only [lt_eq, bd_some, bv_some, li, pk_mul, nI_add, nIsub, nIlt, nIle, nIeq, nIdiv, nIrem, neg_, pos_, ib_nI, gd_true, nI_tn, gI_ss, gI_sk, gI_sc, ↓reduceIte, nIn1b, h1, bit_, hb, nIor, Nat.or_zero]
        exact e
  have hf : 6 < FU := by decide
  exact key O 0 FU (by omega) (by omega)
/-! the class goes by turns -/
def oA (t h : Nat → Nat) (x : Nat) : Nat → Nat := sumN (fun i => if x.testBit (t i) = true then h (t i) else 0)
def oC (t : Nat → Nat) (f : Nat → Bool) : Nat → Nat
  | 0 => 0
  | n + 1 => if f (t n) = true then oC t f n ||| 2 ^ t n else oC t f n
theorem oA_R {t h d : Nat → Nat} {x O : Nat} (h1 : ∀ i j, i < j → j < O → d (t i) < d (t j) ∨ (d (t i) = d (t j) ∧ t i < t j)) (h2 : ∀ o, o < O → ∃ i, i < O ∧ t i = o) (h3 : ∀ i, i < O → t i < O) : ∀ i, i < O → oA t h x (i + 1) = oR h d x O (t i) := by
  obtain ⟨pos, hpos⟩ : ∃ pos : Nat → Nat, ∀ o, o < O → pos o < O ∧ t (pos o) = o := ⟨fun o => if h : o < O then Classical.choose (h2 o h) else 0, fun o ho => by
    show (if h : o < O then Classical.choose (h2 o h) else 0) < O ∧ t (if h : o < O then Classical.choose (h2 o h) else 0) = o
    rw [dif_pos ho]
    exact Classical.choose_spec (h2 o ho)⟩
  have lexle : ∀ i j, i < O → j < O → ((d (t j) < d (t i) ∨ (d (t j) = d (t i) ∧ t j ≤ t i)) ↔ j ≤ i) := by
    intro i j hi hj
    constructor
    · intro q
      apply Decidable.byContradiction
      intro hn
      have := h1 i j (by omega) hj
      omega
    · intro q
      by_cases e : j = i
      · subst e
        exact Or.inr ⟨rfl, Nat.le_refl _⟩
      · have := h1 j i (by omega) hi
        omega
  have hpt : ∀ i, i < O → pos (t i) = i := by
    intro i hi
    obtain ⟨a1, a2⟩ := hpos (t i) (h3 i hi)
    have b1 := (lexle i (pos (t i)) hi a1).mp (Or.inr ⟨by rw [a2], by rw [a2]; exact Nat.le_refl _⟩)
    have b2 := (lexle (pos (t i)) i a1 hi).mp (Or.inr ⟨by rw [a2], by rw [a2]; exact Nat.le_refl _⟩)
    omega
  have claim : ∀ i, i ≤ O → oA t h x i = sumN (fun o => if x.testBit o = true ∧ pos o < i then h o else 0) O := by
    intro i
    induction i with
    | zero =>
      intro _
      exact ((sumN_eq (fun o _ => if_neg (by omega))).trans (sumN_0 O)).symm
    | succ i ih =>
      intro hi
      have e : oA t h x (i + 1) = oA t h x i + (if x.testBit (t i) = true then h (t i) else 0) := rfl
      rw [e, ih (by omega)]
      symm
      apply sumN_up (p := t i) (h3 i (by omega))
      · rw [if_neg]
        rw [hpt i (by omega)]
        omega
      · rw [hpt i (by omega)]
        by_cases hb : x.testBit (t i) = true
        · rw [if_pos ⟨hb, by omega⟩, if_pos hb]
        · rw [if_neg (fun q => hb q.1), if_neg hb]
      · intro o ho hne
        obtain ⟨a1, a2⟩ := hpos o ho
        have hne2 : pos o ≠ i := fun q => hne (by rw [← a2, q])
        by_cases hc : x.testBit o = true ∧ pos o < i
        · rw [if_pos hc, if_pos ⟨hc.1, by omega⟩]
        · rw [if_neg hc, if_neg (fun q => hc ⟨q.1, by omega⟩)]
  intro i hi
  rw [claim (i + 1) (by omega)]
  apply sumN_eq
  intro o ho
  obtain ⟨a1, a2⟩ := hpos o ho
  have l := lexle i (pos o) hi a1
  rw [a2] at l
  by_cases hc : x.testBit o = true ∧ (d o < d (t i) ∨ (d o = d (t i) ∧ o ≤ t i))
  · have := l.mp hc.2
    rw [if_pos hc, if_pos ⟨hc.1, by omega⟩]
  · rw [if_neg hc, if_neg (fun q => hc ⟨q.1, l.mpr (by omega)⟩)]
theorem oC_L {t : Nat → Nat} {f : Nat → Bool} {O : Nat} (h2 : ∀ o, o < O → ∃ i, i < O ∧ t i = o) (h3 : ∀ i, i < O → t i < O) : oC t f O = maskN f O := by
  have claim : ∀ (k i : Nat), (oC t f i).testBit k = true ↔ ∃ j, j < i ∧ t j = k ∧ f k = true := by
    intro k i
    induction i with
    | zero => simp [oC]
    | succ i ih =>
      have e : oC t f (i + 1) = if f (t i) = true then oC t f i ||| 2 ^ t i else oC t f i := rfl
      rw [e]
      by_cases hf : f (t i) = true
      · rw [if_pos hf, tb_up, Bool.or_eq_true, ih, decide_eq_true_eq]
        constructor
        · rintro (⟨j, q1, q2, q3⟩ | q)
          · exact ⟨j, by omega, q2, q3⟩
          · exact ⟨i, by omega, q, by rw [← q]; exact hf⟩
        · rintro ⟨j, q1, q2, q3⟩
          by_cases hj : j = i
          · subst hj
            exact Or.inr q2
          · exact Or.inl ⟨j, by omega, q2, q3⟩
      · rw [if_neg hf, ih]
        constructor
        · rintro ⟨j, q1, q2, q3⟩
          exact ⟨j, by omega, q2, q3⟩
        · rintro ⟨j, q1, q2, q3⟩
          by_cases hj : j = i
          · subst hj
            rw [q2] at hf
            exact absurd q3 hf
          · exact ⟨j, by omega, q2, q3⟩
  apply Nat.eq_of_testBit_eq
  intro k
  rw [Bool.eq_iff_iff, claim, maskN_tb, Bool.and_eq_true, decide_eq_true_eq]
  constructor
  · rintro ⟨j, q1, q2, q3⟩
    exact ⟨by rw [← q2]; exact h3 j q1, q3⟩
  · rintro ⟨q1, q2⟩
    obtain ⟨i, a1, a2⟩ := h2 k q1
    exact ⟨i, a1, a2, q2⟩
theorem c_late {σ : Mem} {O x : Nat} {t h d : Nat → Nat} (hO : O ≤ 6) (hx : x < 2 ^ 31) (g1 : gI σ 16 4 = nI O) (g2 : ∀ i, i < O → gI σ 17 i = nI (h i)) (g3 : ∀ i, i < O → gI σ 18 i = nI (d i)) (g4 : ∀ i, i < O → gI σ 20 i = nI (t i)) (b1 : ∀ i, i < O → d i ≤ 99) (b2 : ∀ i, i < O → h i ≤ 20)
    (h1 : ∀ i j, i < j → j < O → d (t i) < d (t j) ∨ (d (t i) = d (t j) ∧ t i < t j)) (h2 : ∀ o, o < O → ∃ i, i < O ∧ t i = o) (h3 : ∀ i, i < O → t i < O) : f_X4_lateOf (nI x) σ = some (nI (oL h d x O), σ) := by
  have key : ∀ m i fu : Nat, i + m = O → m < fu → fx5 f_X4_lateOf_7 fu (nI x) (nI (oC t (oLb h d x O) i)) (nI (oA t h x i)) (nI i) σ = some (nI (oL h d x O), σ) := by
    intro m
    induction m with
    | zero =>
      intro i fu hi hf
      obtain ⟨fu, rfl⟩ : ∃ z, fu = z + 1 := ⟨fu - 1, by omega⟩
      have hi : i = O := by omega
      subst hi
      show f_X4_lateOf_7 _ _ _ _ _ _ = _
      unfold f_X4_lateOf_7
      rw [oC_L h2 h3]
      simp (disch := omega) only [lt_eq, bd_some, bv_some, li, pk_mul, nI_add, nIsub, nIlt, nIle, nIeq, nIdiv, nIrem, neg_, pos_, ib_nI, gd_true, nI_tn, gI_ss, gI_sk, gI_sc, ↓reduceIte, nIn1b, g1]
      rfl
    | succ m ih =>
      intro i fu hi hf
      obtain ⟨fu, rfl⟩ : ∃ z, fu = z + 1 := ⟨fu - 1, by omega⟩
      have e := ih (i + 1) fu (by omega) (by omega)
      have e2 : oC t (oLb h d x O) (i + 1) = if oLb h d x O (t i) = true then oC t (oLb h d x O) i ||| 2 ^ t i else oC t (oLb h d x O) i := rfl
      have e3 : oA t h x (i + 1) = oA t h x i + (if x.testBit (t i) = true then h (t i) else 0) := rfl
      have e4 := oA_R (h := h) (x := x) h1 h2 h3 i (by omega)
      have ht := h3 i (by omega)
      have c1 := b1 (t i) ht
      have c2 := oR_le (h := h) (d := d) (x := x) (o := t i) hO b2
      have c3 := b2 (t i) ht
      show f_X4_lateOf_7 _ _ _ _ _ _ = _
      unfold f_X4_lateOf_7 f_X4_lateOf_63
      by_cases hb : x.testBit (t i) = true
      · rw [if_pos hb] at e3
        have e5 : oA t h x i + h (t i) = oR h d x O (t i) := by omega
        by_cases hl : oR h d x O (t i) ≤ d (t i)
        · have hn : ¬ oLb h d x O (t i) = true := by
            unfold oLb
            rw [hb, decide_eq_false (by omega)]
            decide
          rw [if_neg hn] at e2
          rw [e2, e4] at e
          simp (disch := omega) only [lt_eq, bd_some, bv_some, li, pk_mul, nI_add, nIsub, nIlt, nIle, nIeq, nIdiv, nIrem, neg_, pos_, ib_nI, gd_true, nI_tn, gI_ss, gI_sk, gI_sc, ↓reduceIte, nIn1b, g1, g4 i (by omega), bit_, hb, g2 (t i) ht, g3 (t i) ht, e5]
          exact e
        · have hn : oLb h d x O (t i) = true := by
            unfold oLb
            rw [hb, decide_eq_true (by omega)]
            rfl
          rw [if_pos hn] at e2
          rw [e2, e4] at e
          simp (disch := omega) only [lt_eq, bd_some, bv_some, li, pk_mul, nI_add, nIsub, nIlt, nIle, nIeq, nIdiv, nIrem, neg_, pos_, ib_nI, gd_true, nI_tn, gI_ss, gI_sk, gI_sc, ↓reduceIte, nIn1b, g1, g4 i (by omega), bit_, hb, g2 (t i) ht, g3 (t i) ht, e5, shl1_, nIor]
          exact e
      · have hn : ¬ oLb h d x O (t i) = true := by
          unfold oLb
          rw [Bool.eq_false_iff.mpr hb, Bool.false_and]
          decide
        rw [if_neg hn] at e2
        rw [if_neg hb] at e3
        rw [e2, e3] at e
        simp (disch := omega) only [lt_eq, bd_some, bv_some, li, pk_mul, nI_add, nIsub, nIlt, nIle, nIeq, nIdiv, nIrem, neg_, pos_, ib_nI, gd_true, nI_tn, gI_ss, gI_sk, gI_sc, ↓reduceIte, nIn1b, g1, g4 i (by omega), bit_, hb]
        exact e
  have hf : 6 < FU := by decide
  exact key O 0 FU (by omega) (by omega)
theorem op_late (n : Nat) (σ μ : Mem) (p1 : Int32) (hR : Rel (n + 1) σ μ) : ∃ (r : Int32) (σ1 μ1 : Mem), f_X11_late p1 σ = some (r, σ1) ∧ f_X12_late p1 μ = some (r, μ1) ∧ Rel n σ1 μ1 := by
  have hi := rel_idle n σ μ hR
  obtain ⟨hn, Am, M, ⟨g1, g2, g3, g4, g5, g6, g7, g8, ⟨d1, O, d2, d3, h, d, q, d4, t, d5, d6, d7⟩, g10⟩, hH, hI, hp, hm, ha⟩ := hR
  have d1 : gI σ 16 4 = nI O := d1.trans d3
  have d3 : gI μ 1 3 = nI O := d3
  have e1 : nI 1 <<< (nI O &&& nI 31) - nI 1 = nI (2 ^ O - 1) := by
    rw [shl1_ (by omega), nIsub (Nat.one_le_two_pow)]
  have e1 : (1 : Int32) <<< (nI O &&& 31) - 1 = nI (2 ^ O - 1) := e1
  have h26 : 2 ^ O ≤ 2 ^ 6 := Nat.pow_le_pow_right (by omega) d2
  by_cases h1 : wi p1 0 (nI (2 ^ O - 1)) = 0
  · exact ⟨-2, σ, μ, by simp only [bd_some, bv_some, lt_eq, ↓reduceIte, f_X11_late, c_within, d1, e1, h1], by simp only [bd_some, bv_some, lt_eq, ↓reduceIte, f_X12_late, m_within, d3, e1, h1], hi⟩
  obtain ⟨x, -, hx, rfl⟩ := wi_nat (lo := 0) (hi := 2 ^ O - 1) h1 (by omega) (by omega)
  have cl := c_late (σ := σ) (x := x) (t := t) (h := h) (d := d) d2 (by omega) d1 (fun i hi => (d4 i hi).1) (fun i hi => (d4 i hi).2.2.1) (fun i hi => (d5 i hi).1) (fun i hi => (d4 i hi).2.2.2.2.2.2.2.2.2.1) (fun i hi => (d4 i hi).2.2.2.2.2.2.2.1) d6 d7 (fun i hi => (d5 i hi).2)
  have ml := m_lates (μ := μ) (x := x) (h := h) (d := d) d2 (by omega) d3 (fun i hi => (d4 i hi).2.1) (fun i hi => (d4 i hi).2.2.2.1) (fun i hi => (d4 i hi).2.2.2.2.2.2.2.2.2.1) (fun i hi => (d4 i hi).2.2.2.2.2.2.2.1)
  exact ⟨nI (oL h d x O), σ, μ, by simp only [bd_some, bv_some, lt_eq, ↓reduceIte, f_X11_late, c_within, d1, e1, h1, cl], by simp only [bd_some, bv_some, lt_eq, ↓reduceIte, f_X12_late, m_within, d3, e1, h1, ml], hi⟩
