/-! SEGMENTS OF CODE: what they push -/
def tT (sg sd n : Nat) : (Nat → Int32) → Bool := fun s => decide ((if s sg < nI n then 0 else if s sg = nI n then 1 else 2) = sd)
def SC (o : Nat) (f : Nat → Int32) (c c' : Nat) (T : (Nat → Int32) → Bool) (h : Nat) : Prop := c ≤ c' ∧ ∀ (τ : Mem) (fu v E : Nat), (∀ j, c ≤ j → j < c' → gI τ (o + 4) j = f j) → c' ≤ E → E ≤ 120 → v < 2 ^ (30 - h) → fx4 (f_X3_holds_5 o) (fu + (c' - c)) (nI E) (nI v) (nI c) τ = fx4 (f_X3_holds_5 o) fu (nI E) (nI (2 * v + bn (T (nm6 (gI τ (o + 5)))))) (nI c') τ
theorem SC_f {o c c' h : Nat} {f g : Nat → Int32} {T : (Nat → Int32) → Bool} (H : SC o f c c' T h) (e : ∀ j, c ≤ j → j < c' → g j = f j) : SC o g c c' T h := ⟨H.1, fun τ fu v E h1 h2 h3 h4 => H.2 τ fu v E (fun j a b => (h1 j a b).trans (e j a b)) h2 h3 h4⟩
theorem SC_h {o c c' h h' : Nat} {f : Nat → Int32} {T : (Nat → Int32) → Bool} (H : SC o f c c' T h) (e : h ≤ h') : SC o f c c' T h' := ⟨H.1, fun τ fu v E h1 h2 h3 h4 => H.2 τ fu v E h1 h2 h3 (Nat.lt_of_lt_of_le h4 (Nat.pow_le_pow_right (by omega) (by omega)))⟩
theorem SC_T {o c c' h : Nat} {f : Nat → Int32} {T T' : (Nat → Int32) → Bool} (H : SC o f c c' T h) (e : ∀ s, T' s = T s) : SC o f c c' T' h := by
  have : T' = T := funext e
  rw [this]
  exact H
theorem nI_m2 {n : Nat} (h : n < 2 ^ 31) : ¬ nI n = -2 := by
  intro q
  have h1 := nI_toInt h
  rw [q] at h1
  have h2 : (-2 : Int32).toInt = -2 := by decide +kernel
  omega
theorem nI_m3 {n : Nat} (h : n < 2 ^ 31) : ¬ nI n = -3 := by
  intro q
  have h1 := nI_toInt h
  rw [q] at h1
  have h2 : (-3 : Int32).toInt = -3 := by decide +kernel
  omega
theorem pow30 {v h : Nat} (h1 : v < 2 ^ (30 - h)) : v < 2 ^ 30 := Nat.lt_of_lt_of_le h1 (Nat.pow_le_pow_right (by omega) (by omega))
theorem SC_test {o c sg sd n : Nat} {f : Nat → Int32} (hs : sg < 6) (hd : sd < 3) (hn : n < 100) (hf : f c = nI ((sg * 3 + sd) * 100 + n)) : SC o f c (c + 1) (tT sg sd n) 1 := by
  refine ⟨by omega, fun τ fu v E h1 h2 h3 h4 => ?_⟩
  have hv := pow30 h4
  have hv2 : v < 2 ^ 29 := h4
  have e0 : gI τ (o + 4) c = nI ((sg * 3 + sd) * 100 + n) := (h1 c (by omega) (by omega)).trans hf
  have hP : (sg * 3 + sd) * 100 + n < 1800 := by omega
  rw [show fu + (c + 1 - c) = fu + 1 by omega]
  show f_X3_holds_5 o (fx4 (f_X3_holds_5 o) fu) _ _ _ _ = _
  generalize fx4 (f_X3_holds_5 o) fu = kk
  have e6 : nm6 (gI τ (o + 5)) sg = gI τ (o + 5) sg := if_pos hs
  have ea : nI ((sg * 3 + sd) * 100 + n) / (300 : Int32) = nI sg := by
    rw [show (300 : Int32) = nI 300 from rfl, nIdiv (by omega) (by omega) (by omega), show ((sg * 3 + sd) * 100 + n) / 300 = sg by omega]
  have push : ∀ b : Bool, f_X3_holds_155 o kk (nI E) (nI c) (nI v <<< ((1 : Int32) &&& 31)) (nI (bn b)) τ = kk (nI E) (nI (2 * v + bn b)) (nI (c + 1)) τ := fun b => by
    have hb := bn_lt b
    unfold f_X3_holds_155 f_X3_holds_157
    rw [show ((1 : Int32) &&& 31) = nI 1 from rfl, nIshl (by omega) (by omega), nIor, lt_eq, lt_eq, nI_1, show v * 2 ^ 1 = 2 * v + bn false from by show v * 2 ^ 1 = 2 * v + 0; omega, st_or, Bool.false_or]
  have e118 : ∀ z : Nat, z < 3 → f_X3_holds_133 o kk (nI E) (nI v) (nI c) (nI ((sg * 3 + sd) * 100 + n)) (nI z) τ = kk (nI E) (nI (2 * v + bn (decide (z = sd)))) (nI (c + 1)) τ := fun z hz => by
    unfold f_X3_holds_133
    rw [show (100 : Int32) = nI 100 from rfl, nIdiv (by omega) (by omega) (by omega), show (3 : Int32) = nI 3 from rfl, nIrem (by omega) (by omega) (by omega), show ((sg * 3 + sd) * 100 + n) / 100 % 3 = sd by omega]
    by_cases q : z = sd
    · rw [if_pos (by rw [q]), decide_eq_true q]
      exact push true
    · rw [if_neg (fun w => q (nI_inj (by omega) (by omega) w)), decide_eq_false q]
      exact push false
  unfold f_X3_holds_5
  rw [if_neg (nI_ge (by omega) (by omega)), ib_nI (by omega) (by omega), gd_true, nI_tn (by omega), e0, lt_eq, if_neg (nI_m1 (by omega)), if_neg (nI_m2 (by omega)), if_neg (nI_m3 (by omega)), ea, lt_eq, if_neg (Int32.not_lt.mpr (show (0 : Int32) ≤ nI sg from nI_pos' (by omega))), if_neg (show ¬ (6 : Int32) ≤ nI sg from nI_ge (a := sg) (b := 6) (by omega) (by omega)), ib_nI hs (by omega), gd_true, nI_tn (by omega)]
  unfold f_X3_holds_101
  rw [show (100 : Int32) = nI 100 from rfl, nIrem (by omega) (by omega) (by omega), show ((sg * 3 + sd) * 100 + n) % 100 = n by omega, lt_eq]
  unfold tT
  rw [e6]
  by_cases q1 : gI τ (o + 5) sg < nI n
  · rw [if_neg (Int32.not_le.mpr q1), if_pos q1]
    exact e118 0 (by omega)
  · rw [if_pos (Int32.not_lt.mp q1), if_neg q1]
    by_cases q2 : gI τ (o + 5) sg = nI n
    · rw [if_pos q2, if_pos q2]
      exact e118 1 (by omega)
    · rw [if_neg q2, if_neg q2]
      exact e118 2 (by omega)
theorem SC_not {o c c1 h : Nat} {f : Nat → Int32} {T : (Nat → Int32) → Bool} (H : SC o f c c1 T h) (hf : f c1 = -1) : SC o f c (c1 + 1) (fun s => !T s) h := by
  obtain ⟨H0, H1⟩ := H
  refine ⟨by omega, fun τ fu v E h1 h2 h3 h4 => ?_⟩
  have hv := pow30 h4
  rw [show fu + (c1 + 1 - c) = (fu + 1) + (c1 - c) by omega, H1 τ (fu + 1) v E (fun j a b => h1 j a (by omega)) (by omega) h3 h4]
  have e0 : gI τ (o + 4) c1 = -1 := (h1 c1 (by omega) (by omega)).trans hf
  show f_X3_holds_5 o (fx4 (f_X3_holds_5 o) fu) _ _ _ _ = _
  generalize fx4 (f_X3_holds_5 o) fu = kk
  unfold f_X3_holds_5 f_X3_holds_157
  rw [if_neg (nI_ge (by omega) (by omega)), ib_nI (by omega) (by omega), gd_true, nI_tn (by omega), e0, lt_eq, if_pos rfl, show (1 : Int32) = nI 1 from rfl, nIxor, st_not, lt_eq, lt_eq, nI_add]
theorem SC_and {o c c1 c2 h1 h2 h : Nat} {f : Nat → Int32} {T1 T2 : (Nat → Int32) → Bool} (H : SC o f c c1 T1 h1) (H' : SC o f c1 c2 T2 h2) (hf : f c2 = -2) (e1 : h1 ≤ h) (e2 : h2 + 1 ≤ h) (eh : h ≤ 20) : SC o f c (c2 + 1) (fun s => T1 s && T2 s) h := by
  obtain ⟨H0, H1⟩ := H
  obtain ⟨G0, G1⟩ := H'
  refine ⟨by omega, fun τ fu v E k1 k2 k3 k4 => ?_⟩
  have hb1 := bn_lt (T1 (nm6 (gI τ (o + 5))))
  have hb2 := bn_lt (T2 (nm6 (gI τ (o + 5))))
  have hp : 2 ^ (30 - h2) ≥ 2 ^ (30 - h + 1) := Nat.pow_le_pow_right (by omega) (by omega)
  rw [Nat.pow_succ] at hp
  have hv : v < 2 ^ 29 := Nat.lt_of_lt_of_le k4 (Nat.pow_le_pow_right (by omega) (by omega))
  rw [show fu + (c2 + 1 - c) = (fu + 1 + (c2 - c1)) + (c1 - c) by omega, H1 τ (fu + 1 + (c2 - c1)) v E (fun j a b => k1 j a (by omega)) (by omega) k3 (Nat.lt_of_lt_of_le k4 (Nat.pow_le_pow_right (by omega) (by omega))), G1 τ (fu + 1) (2 * v + bn (T1 (nm6 (gI τ (o + 5))))) E (fun j a b => k1 j (by omega) (by omega)) (by omega) k3 (by omega)]
  have e0 : gI τ (o + 4) c2 = -2 := (k1 c2 (by omega) (by omega)).trans hf
  show f_X3_holds_5 o (fx4 (f_X3_holds_5 o) fu) _ _ _ _ = _
  generalize fx4 (f_X3_holds_5 o) fu = kk
  unfold f_X3_holds_5 f_X3_holds_157
  rw [if_neg (nI_ge (by omega) (by omega)), ib_nI (by omega) (by omega), gd_true, nI_tn (by omega), e0, lt_eq, if_neg (by decide), if_pos rfl, pk_ushrN (by omega) 1 1 (by decide), show (-2 : Int32) = nI (2 ^ 32 - 2) from by decide +kernel, nIor, nIand, show (2 * (2 * v + bn (T1 (nm6 (gI τ (o + 5))))) + bn (T2 (nm6 (gI τ (o + 5))))) / 2 ^ 1 = 2 * v + bn (T1 (nm6 (gI τ (o + 5)))) by omega, st_and (by omega), lt_eq, lt_eq, nI_1]
theorem SC_or {o c c1 c2 h1 h2 h : Nat} {f : Nat → Int32} {T1 T2 : (Nat → Int32) → Bool} (H : SC o f c c1 T1 h1) (H' : SC o f c1 c2 T2 h2) (hf : f c2 = -3) (e1 : h1 ≤ h) (e2 : h2 + 1 ≤ h) (eh : h ≤ 20) : SC o f c (c2 + 1) (fun s => T1 s || T2 s) h := by
  obtain ⟨H0, H1⟩ := H
  obtain ⟨G0, G1⟩ := H'
  refine ⟨by omega, fun τ fu v E k1 k2 k3 k4 => ?_⟩
  have hb1 := bn_lt (T1 (nm6 (gI τ (o + 5))))
  have hb2 := bn_lt (T2 (nm6 (gI τ (o + 5))))
  have hp : 2 ^ (30 - h2) ≥ 2 ^ (30 - h + 1) := Nat.pow_le_pow_right (by omega) (by omega)
  rw [Nat.pow_succ] at hp
  have hv : v < 2 ^ 29 := Nat.lt_of_lt_of_le k4 (Nat.pow_le_pow_right (by omega) (by omega))
  rw [show fu + (c2 + 1 - c) = (fu + 1 + (c2 - c1)) + (c1 - c) by omega, H1 τ (fu + 1 + (c2 - c1)) v E (fun j a b => k1 j a (by omega)) (by omega) k3 (Nat.lt_of_lt_of_le k4 (Nat.pow_le_pow_right (by omega) (by omega))), G1 τ (fu + 1) (2 * v + bn (T1 (nm6 (gI τ (o + 5))))) E (fun j a b => k1 j (by omega) (by omega)) (by omega) k3 (by omega)]
  have e0 : gI τ (o + 4) c2 = -3 := (k1 c2 (by omega) (by omega)).trans hf
  show f_X3_holds_5 o (fx4 (f_X3_holds_5 o) fu) _ _ _ _ = _
  generalize fx4 (f_X3_holds_5 o) fu = kk
  unfold f_X3_holds_5 f_X3_holds_157
  rw [if_neg (nI_ge (by omega) (by omega)), ib_nI (by omega) (by omega), gd_true, nI_tn (by omega), e0, lt_eq, if_neg (by decide), if_neg (by decide), if_pos rfl, pk_ushrN (by omega) 1 1 (by decide), pk_andN (by omega) 1 (by decide), nIor, show (2 * (2 * v + bn (T1 (nm6 (gI τ (o + 5))))) + bn (T2 (nm6 (gI τ (o + 5))))) / 2 ^ 1 = 2 * v + bn (T1 (nm6 (gI τ (o + 5)))) by omega, show (2 * (2 * v + bn (T1 (nm6 (gI τ (o + 5))))) + bn (T2 (nm6 (gI τ (o + 5))))) % 2 ^ 1 = bn (T2 (nm6 (gI τ (o + 5)))) by omega, st_or, lt_eq, lt_eq, nI_1]
/-! the model's steps -/
def SM (k : Nat) (f : Nat → Int32) (a b : Nat) (T : (Nat → Int32) → Bool) (h : Nat) : Prop := a ≤ b ∧ ∀ (τ : Mem) (fu tp m : Nat) (x2 x4 : Int32), (∀ j, a ≤ j → j < b → gI τ 1 j = f j) → gI τ 1 (146 + k) = nI m → b ≤ 151 + 140 * k + m → m ≤ 140 → k < 5 → tp + h ≤ 60 → ∃ τ', fx6 f_X12_together_16 (fu + (b - a)) (nI k) x2 (nI tp) x4 (nI a) τ = fx6 f_X12_together_16 fu (nI k) x2 (nI (tp + 1)) x4 (nI b) τ' ∧ gI τ' 4 tp = bI (T (nm6 (gI τ 3))) ∧ (∀ j, j < tp → gI τ' 4 j = gI τ 4 j) ∧ (∀ c, c ≠ 4 → gI τ' c = gI τ c) ∧ τ'.2 = τ.2
theorem SM_f {k a b h : Nat} {f g : Nat → Int32} {T : (Nat → Int32) → Bool} (H : SM k f a b T h) (e : ∀ j, a ≤ j → j < b → g j = f j) : SM k g a b T h := ⟨H.1, fun τ fu tp m x2 x4 h1 => H.2 τ fu tp m x2 x4 (fun j p q => (h1 j p q).trans (e j p q))⟩
theorem SM_h {k a b h h' : Nat} {f : Nat → Int32} {T : (Nat → Int32) → Bool} (H : SM k f a b T h) (e : h ≤ h') : SM k f a b T h' := ⟨H.1, fun τ fu tp m x2 x4 h1 h2 h3 h4 h5 h6 => H.2 τ fu tp m x2 x4 h1 h2 h3 h4 h5 (by omega)⟩
/-- the head of a step -/
theorem m_head {k m a : Nat} {τ : Mem} (hk : k < 5) (h1 : gI τ 1 (146 + k) = nI m) (h2 : a < 151 + 140 * k + m) (h3 : m ≤ 140) (kk : Int32 → Int32 → Int32 → Int32 → Int32 → Mem → Option (Int32 × Mem)) (x2 x3 x4 : Int32) : ib ((146 : Int32) + nI k) 1055 = true ∧ ((146 : Int32) + nI k).toNatClampNeg = 146 + k ∧ ¬ (((151 : Int32) + ((140 : Int32) * nI k)) + gI τ 1 (146 + k)) ≤ nI a ∧ ib (nI a) 1055 = true ∧ (nI a).toNatClampNeg = a := by
  have e : (146 : Int32) + nI k = nI (146 + k) := nI_add 146 k
  have e2 : ((151 : Int32) + ((140 : Int32) * nI k)) + nI m = nI (151 + 140 * k + m) := by simp only [li, pk_mul, nI_add]
  rw [e, h1, e2]
  exact ⟨ib_nI (by omega) (by omega), nI_tn (by omega), nI_ge (by omega) (by omega), ib_nI (by omega) (by omega), nI_tn (by omega)⟩
theorem SM_test {k a sg sd n : Nat} {f : Nat → Int32} (hs : sg < 6) (hd : sd < 3) (hn : n < 100) (hf : f a = nI (sg + 8 * sd + 32 * n)) : SM k f a (a + 1) (tT sg sd n) 1 := by
  refine ⟨by omega, fun τ fu tp m x2 x4 h1 h2 h3 h4 hk h5 => ?_⟩
  have e0 : gI τ 1 a = nI (sg + 8 * sd + 32 * n) := (h1 a (by omega) (by omega)).trans hf
  have e6 : nm6 (gI τ 3) sg = gI τ 3 sg := if_pos hs
  rw [show fu + (a + 1 - a) = fu + 1 by omega]
  refine ⟨sI τ 4 tp (bI (tT sg sd n (nm6 (gI τ 3)))), ?_, gI_ss _ _ _ _, fun j hj => gI_sk _ _ _ (by omega), fun c hc => gIr _ _ _ hc, rfl⟩
  show f_X12_together_16 (fx6 f_X12_together_16 fu) _ _ _ _ _ _ = _
  generalize fx6 f_X12_together_16 fu = kk
  obtain ⟨g1, g2, g3, g4, g5⟩ := m_head hk h2 (show a < 151 + 140 * k + m by omega) h4 kk x2 (nI tp) x4
  have push : ∀ b : Bool, f_X12_together_141 kk (nI k) x2 (nI tp) x4 (nI a) (nI tp) (bI b) τ = kk (nI k) x2 (nI (tp + 1)) x4 (nI (a + 1)) (sI τ 4 tp (bI b)) := fun b => by
    unfold f_X12_together_141 f_X12_together_303
    rw [ib_nI (by omega) (by omega), gd_true, bI_iz, gd_true, nI_tn (by omega), lt_eq, lt_eq, lt_eq, nI_1, nI_1]
  unfold f_X12_together_16
  rw [g1, gd_true, g2, if_neg g3, g4, gd_true, g5, e0, lt_eq, if_neg (nI_pos (by omega))]
  rw [show (8 : Int32) = nI 8 from rfl, show (4 : Int32) = nI 4 from rfl, show (32 : Int32) = nI 32 from rfl, nIrem (by omega) (by omega) (by omega), nIdiv (by omega) (by omega) (by omega), nIdiv (by omega) (by omega) (by omega), nIrem (by omega) (by omega) (by omega), show (sg + 8 * sd + 32 * n) % 8 = sg by omega, show (sg + 8 * sd + 32 * n) / 8 % 4 = sd by omega, show (sg + 8 * sd + 32 * n) / 32 = n by omega, ib_nI hs (by omega), gd_true, nI_tn (by omega), lt_eq, lt_eq, lt_eq]
  unfold tT
  rw [e6]
  rcases (show sd = 0 ∨ sd = 1 ∨ sd = 2 by omega) with rfl | rfl | rfl
  · rw [if_pos (by rfl)]
    by_cases q1 : gI τ 3 sg < nI n
    · rw [if_neg (Int32.not_le.mpr q1), if_pos q1]
      exact push true
    · rw [if_pos (Int32.not_lt.mp q1), if_neg q1]
      have e : decide ((if gI τ 3 sg = nI n then 1 else 2) = 0) = false := by split <;> rfl
      rw [e]
      exact push false
  · rw [if_neg (by decide), if_pos (by rfl)]
    by_cases q2 : gI τ 3 sg = nI n
    · rw [if_pos q2, if_neg (by rw [q2]; exact Int32.lt_irrefl), if_pos q2]
      exact push true
    · have e : decide ((if gI τ 3 sg < nI n then 0 else if gI τ 3 sg = nI n then 1 else 2) = 1) = false := by
        rw [if_neg q2]
        split <;> rfl
      rw [if_neg q2, e]
      exact push false
  · rw [if_neg (by decide), if_neg (by decide)]
    by_cases q1 : gI τ 3 sg ≤ nI n
    · have e : decide ((if gI τ 3 sg < nI n then 0 else if gI τ 3 sg = nI n then 1 else 2) = 2) = false := by
        by_cases q3 : gI τ 3 sg < nI n
        · rw [if_pos q3]
          rfl
        · have : gI τ 3 sg = nI n := Int32.le_antisymm q1 (Int32.not_lt.mp q3)
          rw [if_neg q3, if_pos this]
          rfl
      rw [if_pos q1, e]
      exact push false
    · have q3 : ¬ gI τ 3 sg < nI n := fun z => q1 (Int32.le_of_lt z)
      have q4 : ¬ gI τ 3 sg = nI n := fun z => q1 (by rw [z]; exact Int32.le_refl _)
      rw [if_neg q1, if_neg q3, if_neg q4]
      exact push true
theorem SM_not {k a b h : Nat} {f : Nat → Int32} {T : (Nat → Int32) → Bool} (H : SM k f a b T h) (hf : f b = -1) : SM k f a (b + 1) (fun s => !T s) h := by
  obtain ⟨H0, H1⟩ := H
  refine ⟨by omega, fun τ fu tp m x2 x4 h1 h2 h3 h4 hk h5 => ?_⟩
  obtain ⟨τ', s1, s2, s3, s4, s5⟩ := H1 τ (fu + 1) tp m x2 x4 (fun j p q => h1 j p (by omega)) h2 (by omega) h4 hk h5
  rw [show fu + (b + 1 - a) = (fu + 1) + (b - a) by omega, s1]
  refine ⟨sI τ' 4 tp (bI (!T (nm6 (gI τ 3)))), ?_, gI_ss _ _ _ _, fun j hj => by rw [gI_sk _ _ _ (by omega)]; exact s3 j hj, fun c hc => by rw [gIr _ _ _ hc]; exact s4 c hc, s5⟩
  have e0 : gI τ' 1 b = -1 := by rw [s4 1 (by omega)]; exact (h1 b (by omega) (by omega)).trans hf
  show f_X12_together_16 (fx6 f_X12_together_16 fu) _ _ _ _ _ _ = _
  generalize fx6 f_X12_together_16 fu = kk
  obtain ⟨g1, g2, g3, g4, g5⟩ := m_head hk (τ := τ') (by rw [s4 1 (by omega)]; exact h2) (show b < 151 + 140 * k + m by omega) h4 kk x2 (nI (tp + 1)) x4
  unfold f_X12_together_16
  rw [g1, gd_true, g2, if_neg g3, g4, gd_true, g5, e0, lt_eq, if_pos (by decide), if_pos rfl, show nI (tp + 1) - 1 = nI tp from nI_pred tp, ib_nI (by omega) (by omega), gd_true, nI_tn (by omega), s2]
  unfold f_X12_together_177 f_X12_together_303
  rw [ib_nI (by omega) (by omega), nI_tn (by omega)]
  cases T (nm6 (gI τ 3)) with
  | true =>
    rw [if_neg (by decide), gd_true, show iz (0 : Int32) = true from rfl, gd_true, lt_eq, lt_eq, nI_1]
    rfl
  | false =>
    rw [if_pos (by rfl), gd_true, show iz (1 : Int32) = true from rfl, gd_true, lt_eq, lt_eq, nI_1]
    rfl
theorem SM_bin {k a b c h1 h2 h : Nat} {f : Nat → Int32} {T1 T2 : (Nat → Int32) → Bool} (isOr : Bool) (H : SM k f a b T1 h1) (H' : SM k f b c T2 h2) (hf : f c = if isOr = true then -3 else -2) (e1 : h1 ≤ h) (e2 : h2 + 1 ≤ h) : SM k f a (c + 1) (fun s => if isOr = true then T1 s || T2 s else T1 s && T2 s) h := by
  obtain ⟨H0, H1⟩ := H
  obtain ⟨G0, G1⟩ := H'
  refine ⟨by omega, fun τ fu tp m x2 x4 k1 k2 k3 k4 hk k5 => ?_⟩
  obtain ⟨τ', s1, s2, s3, s4, s5⟩ := H1 τ (fu + 1 + (c - b)) tp m x2 x4 (fun j p q => k1 j p (by omega)) k2 (by omega) k4 hk (by omega)
  obtain ⟨τ2, t1, t2, t3, t4, t5⟩ := G1 τ' (fu + 1) (tp + 1) m x2 x4 (fun j p q => by rw [s4 1 (by omega)]; exact k1 j (by omega) (by omega)) (by rw [s4 1 (by omega)]; exact k2) (by omega) k4 hk (by omega)
  rw [show fu + (c + 1 - a) = (fu + 1 + (c - b)) + (b - a) by omega, s1, t1]
  rw [s4 3 (by omega)] at t2
  have u0 : gI τ2 4 tp = bI (T1 (nm6 (gI τ 3))) := (t3 tp (by omega)).trans s2
  obtain ⟨R, hR⟩ : ∃ R : Bool, R = (if isOr = true then T1 (nm6 (gI τ 3)) || T2 (nm6 (gI τ 3)) else T1 (nm6 (gI τ 3)) && T2 (nm6 (gI τ 3))) := ⟨_, rfl⟩
  refine ⟨sI τ2 4 tp (bI R), ?_, by rw [gI_ss, hR], fun j hj => by rw [gI_sk _ _ _ (by omega), t3 j (by omega)]; exact s3 j hj, fun x hx => by rw [gIr _ _ _ hx, t4 x hx]; exact s4 x hx, t5.trans s5⟩
  have e0 : gI τ2 1 c = if isOr = true then -3 else -2 := by rw [t4 1 (by omega), s4 1 (by omega)]; exact (k1 c (by omega) (by omega)).trans hf
  show f_X12_together_16 (fx6 f_X12_together_16 fu) _ _ _ _ _ _ = _
  generalize fx6 f_X12_together_16 fu = kk
  obtain ⟨g1, g2, g3, g4, g5⟩ := m_head hk (τ := τ2) (by rw [t4 1 (by omega), s4 1 (by omega)]; exact k2) (show c < 151 + 140 * k + m by omega) k4 kk x2 (nI (tp + 1 + 1)) x4
  have fin : ∀ b' : Bool, b' = R → f_X12_together_258 kk (nI k) x2 (nI (tp + 1)) x4 (nI c) (nI tp) (bI b') τ2 = kk (nI k) x2 (nI (tp + 1)) x4 (nI (c + 1)) (sI τ2 4 tp (bI R)) := fun b' hb => by
    unfold f_X12_together_258 f_X12_together_303
    rw [ib_nI (by omega) (by omega), gd_true, bI_iz, gd_true, nI_tn (by omega), lt_eq, lt_eq, nI_1, hb]
  have p1 : nI (tp + 1 + 1) + (-1 : Int32) = nI (tp + 1) := pk_m1 (tp + 1)
  have p2 : nI (tp + 1) - 1 = nI tp := nI_pred tp
  have b1 : ib (nI tp) 64 = true := ib_nI (by omega) (by omega)
  have b2 : ib (nI (tp + 1)) 64 = true := ib_nI (by omega) (by omega)
  have n1 : (nI tp).toNatClampNeg = tp := nI_tn (by omega)
  have n2 : (nI (tp + 1)).toNatClampNeg = tp + 1 := nI_tn (by omega)
  unfold f_X12_together_16
  rw [g1, gd_true, g2, if_neg g3, g4, gd_true, g5, e0, lt_eq]
  cases isOr with
  | true =>
    rw [if_pos rfl, if_pos (by decide), if_neg (by decide), if_neg (by decide), p1, lt_eq, if_neg (by decide), p2, b1, gd_true, n1, u0]
    unfold f_X12_together_253
    cases hT : T1 (nm6 (gI τ 3)) with
    | true =>
      rw [if_neg (by decide)]
      exact fin true (by rw [hR, hT]; rfl)
    | false =>
      rw [if_pos (by rfl), b2, gd_true, n2, t2]
      cases hT2 : T2 (nm6 (gI τ 3)) with
      | true =>
        rw [if_neg (by decide)]
        exact fin true (by rw [hR, hT, hT2]; rfl)
      | false =>
        rw [if_pos (by rfl)]
        exact fin false (by rw [hR, hT, hT2]; rfl)
  | false =>
    rw [show (if false = true then (-3 : Int32) else -2) = -2 from rfl, if_pos (by decide), if_neg (by decide), if_neg (by decide), p1, lt_eq, if_pos rfl, p2, b1, gd_true, n1, u0]
    unfold f_X12_together_229
    cases hT : T1 (nm6 (gI τ 3)) with
    | true =>
      rw [if_neg (by decide), b2, gd_true, n2, t2]
      cases hT2 : T2 (nm6 (gI τ 3)) with
      | true =>
        rw [if_neg (by decide)]
        exact fin true (by rw [hR, hT, hT2]; rfl)
      | false =>
        rw [if_pos (by rfl)]
        exact fin false (by rw [hR, hT, hT2]; rfl)
    | false =>
      rw [if_pos (by rfl)]
      exact fin false (by rw [hR, hT]; rfl)
