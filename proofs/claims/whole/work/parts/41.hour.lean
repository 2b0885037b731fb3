/-! AN HOUR: both sides by the numbers of a mill -/
def cM (a : Nat → Nat → Int32) (k : Nat) (A : Mil) : Prop := (∀ kd sg, A.1 kd sg ≤ 990) ∧ A.2.1 ≤ 99 ∧ A.2.2.1 ≤ 99 ∧ A.2.2.2 ≤ 99 ∧ a (mo k) 8 = nI A.2.1 ∧ a (mo k) 9 = nI A.2.2.1 ∧ a (mo k) 10 = nI A.2.2.2 ∧ cGives a (mo k) A.1
def mM (s : Nat → Int32) (k : Nat) (A : Mil) : Prop := (∀ kd sg, A.1 kd sg ≤ 990) ∧ A.2.1 ≤ 99 ∧ A.2.2.1 ≤ 99 ∧ A.2.2.2 ≤ 99 ∧ s (131 + k) = nI A.2.1 ∧ s (136 + k) = nI A.2.2.1 ∧ s (141 + k) = nI A.2.2.2 ∧ mGives s k A.1
theorem sMill_cM {a : Nat → Nat → Int32} {s : Nat → Int32} {k : Nat} {A : Mil} (h : sMill a s k A) : cM a k A := by
  obtain ⟨h1, h2, h3, h4, h5, h6, h7, h8, h9, h10, h11, h12⟩ := h
  exact ⟨h1, h2, h3, h4, h5, h6, h7, h11⟩
theorem sMill_mM {a : Nat → Nat → Int32} {s : Nat → Int32} {k : Nat} {A : Mil} (h : sMill a s k A) : mM s k A := by
  obtain ⟨h1, h2, h3, h4, h5, h6, h7, h8, h9, h10, h11, h12⟩ := h
  exact ⟨h1, h2, h3, h4, h8, h9, h10, h12⟩
theorem cM_c {a a' : Nat → Nat → Int32} {k : Nat} {A : Mil} (h : cM a k A) (e : ∀ j, 6 ≤ j → j ≤ 10 → a' (mo k) j = a (mo k) j) (e2 : ∀ i, 1 ≤ i → i ≤ 4 → a' (mo k + i) = a (mo k + i)) : cM a' k A := by
  obtain ⟨h1, h2, h3, h4, h5, h6, h7, h11⟩ := h
  refine ⟨h1, h2, h3, h4, by rw [e 8 (by omega) (by omega)]; exact h5, by rw [e 9 (by omega) (by omega)]; exact h6, by rw [e 10 (by omega) (by omega)]; exact h7, ?_⟩
  intro τ g1 g2
  exact h11 τ (fun k h6 h7 => by rw [g1 k h6 h7, e k h6 (by omega)]) (fun i hi hj => by rw [g2 i hi hj, e2 i hi hj])
theorem mM_m {s s' : Nat → Int32} {k : Nat} {A : Mil} (h : mM s k A) (hk : k < 5) (e : ∀ j, 131 ≤ j ∧ j < 851 → s' j = s j) : mM s' k A := by
  obtain ⟨h1, h2, h3, h4, h8, h9, h10, h12⟩ := h
  exact ⟨h1, h2, h3, h4, by rw [e _ (by omega)]; exact h8, by rw [e _ (by omega)]; exact h9, by rw [e _ (by omega)]; exact h10, mGives_m h12 hk e⟩
def bI (b : Bool) : Int32 := if b = true then 1 else 0
theorem bI_t : bI true = nI 1 := rfl
theorem bI_f : bI false = nI 0 := rfl
theorem bI_0 (b : Bool) : (bI b = 0) = (b = false) := by cases b <;> decide
theorem bI_1 (b : Bool) : (bI b = 1) = (b = true) := by cases b <;> decide
theorem bI_0n (b : Bool) : (bI b = nI 0) = (b = false) := by cases b <;> decide
theorem bI_1n (b : Bool) : (bI b = nI 1) = (b = true) := by cases b <;> decide
theorem bI_iz (b : Bool) : iz (bI b) = true := by cases b <;> decide
theorem iz_0n : iz (nI 0) = true := by decide
theorem iz_1n : iz (nI 1) = true := by decide
/-- the meal as it is told: -1, if it runs away -/
def gN (A : Mil) (w st h d : Nat) : Int32 := if hAw A w st h d = true then -1 else nI (hMe A w st h d)
theorem hF_le (A : Mil) (w st h d : Nat) : hF A w st h d ≤ 99 := Nat.min_le_left _ _
theorem hMe_le {A : Mil} (b : ∀ kd sg, A.1 kd sg ≤ 990) (w st h d : Nat) : hMe A w st h d ≤ 990 := by
  unfold hMe hG
  split
  · omega
  · exact b _ _
theorem hHe_le (A : Mil) (w st : Nat) {h : Nat} (hh : h < 10) (d : Nat) : hHe A w st h d ≤ 9 := by
  unfold hHe
  split <;> omega
theorem hDu_le (A : Mil) (w st h : Nat) {d : Nat} (hd : d < 10) : hDu A w st h d ≤ 9 := by
  unfold hDu
  split <;> omega
theorem hMe_aw {A : Mil} {w st h d : Nat} (q : hAw A w st h d = true) : hMe A w st h d = 0 := if_pos (Or.inl q)
theorem hBu_aw {A : Mil} {w st h d : Nat} (q : hAw A w st h d = true) : hBu A w st h d = false := by
  unfold hBu
  rw [q]
  rfl
theorem hI_at {A : Mil} (b : ∀ kd sg, A.1 kd sg ≤ 990) (w st : Nat) {h d : Nat} (hh : h < 10) (hd : d < 10) : 2 ^ 27 ≤ hI A w st h d ∧ hI A w st h d < 2 ^ 28 ∧ hI A w st h d % 2 ^ 7 = hF A w st h d ∧ hI A w st h d / 2 ^ 7 % 2 ^ 10 = hMe A w st h d ∧ hI A w st h d / 2 ^ 17 % 2 ^ 4 = hHe A w st h d ∧ hI A w st h d / 2 ^ 21 % 2 ^ 4 = hDu A w st h d ∧ hI A w st h d / 2 ^ 25 % 2 = (if hBu A w st h d = true then 1 else 0) ∧ hI A w st h d / 2 ^ 26 % 2 = (if hAw A w st h d = true then 1 else 0) := by
  have c1 := hF_le A w st h d
  have c2 := hMe_le b w st h d
  have c3 := hHe_le A w st hh d
  have c4 := hDu_le A w st h hd
  unfold hI
  generalize hF A w st h d = f at *
  generalize hMe A w st h d = m at *
  generalize hHe A w st h d = x at *
  generalize hDu A w st h d = y at *
  by_cases q1 : hAw A w st h d = true
  · rw [if_pos q1, if_pos q1]
    by_cases q2 : hBu A w st h d = true
    · rw [if_pos q2, if_pos q2]
      omega
    · rw [if_neg q2, if_neg q2]
      omega
  · rw [if_neg q1, if_neg q1]
    by_cases q2 : hBu A w st h d = true
    · rw [if_pos q2, if_pos q2]
      omega
    · rw [if_neg q2, if_neg q2]
      omega
theorem and2_ (x k : Nat) : x &&& 2 ^ k = if x / 2 ^ k % 2 = 1 then 2 ^ k else 0 := by
  have e : (x / 2 ^ k % 2 = 1) = (x.testBit k = true) := by
    rw [Nat.testBit_eq_decide_div_mod_eq]
    simp only [decide_eq_true_eq]
  simp only [e]
  apply Nat.eq_of_testBit_eq
  intro i
  rw [Nat.testBit_and, Nat.testBit_two_pow]
  by_cases hi : k = i
  · subst hi
    by_cases hb : x.testBit k = true
    · rw [if_pos hb, hb, Nat.testBit_two_pow]
      rfl
    · rw [if_neg hb, Bool.eq_false_iff.mpr hb]
      simp
  · have h0 : decide (k = i) = false := decide_eq_false hi
    rw [h0, Bool.and_false]
    split
    · rw [Nat.testBit_two_pow, h0]
    · simp
theorem c_isAway {A : Mil} (b : ∀ kd sg, A.1 kd sg ≤ 990) (w st : Nat) {h d : Nat} (hh : h < 10) (hd : d < 10) (τ : Mem) : f_X3_isAway (nI (hI A w st h d)) τ = some (bI (hAw A w st h d), τ) := by
  obtain ⟨i1, i2, -, -, -, -, -, i8⟩ := hI_at b w st hh hd
  unfold f_X3_isAway
  have e : nI (hI A w st h d) &&& (67108864 : Int32) = nI (hI A w st h d &&& 2 ^ 26) := nIand _ _
  rw [e, and2_, i8]
  by_cases q : hAw A w st h d = true
  · rw [q]
    rfl
  · rw [Bool.eq_false_iff.mpr q]
    rfl
theorem c_isBurnt {A : Mil} (b : ∀ kd sg, A.1 kd sg ≤ 990) (w st : Nat) {h d : Nat} (hh : h < 10) (hd : d < 10) (τ : Mem) : f_X3_isBurnt (nI (hI A w st h d)) τ = some (bI (hBu A w st h d), τ) := by
  obtain ⟨i1, i2, -, -, -, -, i8, -⟩ := hI_at b w st hh hd
  unfold f_X3_isBurnt
  have e : nI (hI A w st h d) &&& (33554432 : Int32) = nI (hI A w st h d &&& 2 ^ 25) := nIand _ _
  rw [e, and2_, i8]
  by_cases q : hBu A w st h d = true
  · rw [q]
    rfl
  · rw [Bool.eq_false_iff.mpr q]
    rfl
theorem c_fastOf {A : Mil} (b : ∀ kd sg, A.1 kd sg ≤ 990) (w st : Nat) {h d : Nat} (hh : h < 10) (hd : d < 10) (τ : Mem) : f_X3_fastOf (nI (hI A w st h d)) τ = some (nI (hF A w st h d), τ) := by
  obtain ⟨i1, i2, i3, -⟩ := hI_at b w st hh hd
  unfold f_X3_fastOf
  rw [pk_andN (by omega) 7 (by decide), i3]
theorem c_mealOf {A : Mil} (b : ∀ kd sg, A.1 kd sg ≤ 990) (w st : Nat) {h d : Nat} (hh : h < 10) (hd : d < 10) (τ : Mem) : f_X3_mealOf (nI (hI A w st h d)) τ = some (nI (hMe A w st h d), τ) := by
  obtain ⟨i1, i2, -, i4, -⟩ := hI_at b w st hh hd
  unfold f_X3_mealOf
  rw [pk_ushrN (by omega) 7 7 (by decide), pk_andN (by omega) 10 (by decide), i4]
theorem c_heatOf {A : Mil} (b : ∀ kd sg, A.1 kd sg ≤ 990) (w st : Nat) {h d : Nat} (hh : h < 10) (hd : d < 10) (τ : Mem) : f_X3_heatOf (nI (hI A w st h d)) τ = some (nI (hHe A w st h d), τ) := by
  obtain ⟨i1, i2, -, -, i5, -⟩ := hI_at b w st hh hd
  unfold f_X3_heatOf
  rw [pk_ushrN (by omega) 17 17 (by decide), pk_andN (by omega) 4 (by decide), i5]
theorem c_dullOf {A : Mil} (b : ∀ kd sg, A.1 kd sg ≤ 990) (w st : Nat) {h d : Nat} (hh : h < 10) (hd : d < 10) (τ : Mem) : f_X3_dullOf (nI (hI A w st h d)) τ = some (nI (hDu A w st h d), τ) := by
  obtain ⟨i1, i2, -, -, -, i6, -⟩ := hI_at b w st hh hd
  unfold f_X3_dullOf
  rw [pk_ushrN (by omega) 21 21 (by decide), pk_andN (by omega) 4 (by decide), i6]
theorem c_gainOf {A : Mil} (b : ∀ kd sg, A.1 kd sg ≤ 990) (w st : Nat) {h d : Nat} (hh : h < 10) (hd : d < 10) (τ : Mem) : f_X3_gainOf (nI (hI A w st h d)) τ = some (gN A w st h d, τ) := by
  unfold f_X3_gainOf gN
  rw [c_isAway b w st hh hd, bd_some]
  simp only [bI_0]
  by_cases q : hAw A w st h d = true
  · rw [if_pos q, if_neg (by rw [q]; decide)]
  · rw [if_neg q, if_pos (Bool.eq_false_iff.mpr q), c_mealOf b w st hh hd, bd_some]
/-! numbers in a step -/
theorem imn_nI {a b : Nat} (ha : a < 2 ^ 31) (hb : b < 2 ^ 31) : imn (nI a) (nI b) = nI (min a b) := by
  unfold imn
  simp only [nIlt hb ha]
  by_cases q : b < a
  · rw [if_pos q, Nat.min_eq_right (by omega)]
  · rw [if_neg q, Nat.min_eq_left (by omega)]
theorem imx_nI {a b : Nat} (ha : a < 2 ^ 31) (hb : b < 2 ^ 31) : imx (nI a) (nI b) = nI (max a b) := by
  unfold imx
  simp only [nIlt ha hb]
  by_cases q : a < b
  · rw [if_pos q, Nat.max_eq_right (by omega)]
  · rw [if_neg q, Nat.max_eq_left (by omega)]
theorem step_sub {a b : Nat} (ha : a < 2 ^ 30) (hb : b < 2 ^ 30) : imx 0 (imn 9 (nI a - nI b)) = nI (min 9 (a - b)) := by
  by_cases q : b ≤ a
  · rw [nIsub q]
    show imx (nI 0) (imn (nI 9) (nI (a - b))) = _
    rw [imn_nI (by omega) (by omega), imx_nI (by omega) (by omega), Nat.max_eq_right (by omega)]
  · have h0 : nI a - nI b < 0 := pk_sneg hb (by omega)
    have h9 : nI a - nI b < 9 := Int32.lt_trans h0 (by decide)
    have e : min 9 (a - b) = 0 := by omega
    unfold imx imn
    rw [if_pos h9, if_neg (Int32.not_lt.mpr (Int32.le_of_lt h0)), e]
    rfl
theorem step_n {a : Nat} (ha : a < 2 ^ 30) : imx 0 (imn 9 (nI a)) = nI (min 9 a) := by
  show imx (nI 0) (imn (nI 9) (nI a)) = _
  rw [imn_nI (by omega) (by omega), imx_nI (by omega) (by omega), Nat.max_eq_right (by omega)]
theorem held_sub {a b : Nat} (ha : a < 2 ^ 30) (hb : b < 2 ^ 30) (τ : Mem) : f_X12_held (nI a - nI b) τ = some (nI (min 9 (a - b)), τ) := by
  unfold f_X12_held
  by_cases q : b ≤ a
  · rw [nIsub q, if_pos (nI_pos' (by omega))]
    by_cases q2 : a - b ≤ 9
    · have hl : nI (a - b) ≤ 9 := nI_le (a := a - b) (b := 9) q2 (by omega)
      rw [if_pos hl, Nat.min_eq_right q2]
    · have hl : ¬ nI (a - b) ≤ 9 := nI_ge (a := 9) (b := a - b) (by omega) (by omega)
      rw [if_neg hl, Nat.min_eq_left (by omega)]
      rfl
  · have h0 : nI a - nI b < 0 := pk_sneg hb (by omega)
    have e : min 9 (a - b) = 0 := by omega
    rw [if_neg (Int32.not_le.mpr h0), e]
    rfl
theorem held_n {a : Nat} (ha : a < 2 ^ 30) (τ : Mem) : f_X12_held (nI a) τ = some (nI (min 9 a), τ) := by
  have := held_sub (a := a) (b := 0) ha (by omega) τ
  rw [nIsub (Nat.zero_le _)] at this
  exact this
/-! the signs -/
def wS (σ : Mem) (c w st h d f : Nat) : Mem := sI (sI (sI (sI (sI (sI σ c 0 (nI w)) c 1 (nI (st / 2))) c 2 (nI (st % 2))) c 3 (nI h)) c 4 (nI d)) c 5 (nI f)
theorem wS_sgn (σ : Mem) (c w st h d f f' : Nat) : nm6 (gI (sI (wS σ c w st h d f) c 5 (nI f')) c) = sgn w st h d f' := by
  funext j
  unfold nm6 sgn wS
  by_cases h6 : j < 6
  · rcases (show j = 0 ∨ j = 1 ∨ j = 2 ∨ j = 3 ∨ j = 4 ∨ j = 5 by omega) with rfl | rfl | rfl | rfl | rfl | rfl <;> simp [gI_s]
  · rw [if_neg h6, if_neg (by omega), if_neg (by omega), if_neg (by omega), if_neg (by omega), if_neg (by omega), if_neg (by omega)]
theorem wS_sgn0 (σ : Mem) (c w st h d f : Nat) : nm6 (gI (wS σ c w st h d f) c) = sgn w st h d f := by
  funext j
  unfold nm6 sgn wS
  by_cases h6 : j < 6
  · rcases (show j = 0 ∨ j = 1 ∨ j = 2 ∨ j = 3 ∨ j = 4 ∨ j = 5 by omega) with rfl | rfl | rfl | rfl | rfl | rfl <;> simp [gI_s]
  · rw [if_neg h6, if_neg (by omega), if_neg (by omega), if_neg (by omega), if_neg (by omega), if_neg (by omega), if_neg (by omega)]
theorem wS_off (σ : Mem) (c w st h d f : Nat) {c' : Nat} (hc : c' ≠ c) : gI (wS σ c w st h d f) c' = gI σ c' := by
  unfold wS
  simp (disch := omega) only [gIr, gIrL]
theorem wS_2 (σ : Mem) (c w st h d f : Nat) : (wS σ c w st h d f).2 = σ.2 := rfl
theorem c_tog {σ τ : Mem} {k kd : Nat} {A : Mil} {sg : Nat → Int32} (hM : cM (gI σ) k A) (h1 : ∀ c, c ≠ mo k + 5 → gI τ c = gI σ c) (h2 : nm6 (gI τ (mo k + 5)) = sg) (hk : kd < 4) : f_X3_together (mo k) (nI kd) τ = some (nI (A.1 kd sg), τ) := by
  obtain ⟨b1, b2, b3, b4, c8, c9, c10, hGi⟩ := hM
  rw [← h2]
  exact hGi τ (fun j _ _ => by rw [h1 _ (by omega)]) (fun i _ _ => h1 _ (by omega)) kd hk
theorem m_tog {μ τ : Mem} {k kd : Nat} {A : Mil} {sg : Nat → Int32} (hM : mM (gI μ 1) k A) (h1 : gI τ 1 = gI μ 1) (h2 : nm6 (gI τ 3) = sg) (hk : kd < 4) : ∃ τ', f_X12_together (nI k) (nI kd) τ = some (nI (A.1 kd sg), τ') ∧ (∀ c, c ≠ 4 → gI τ' c = gI τ c) ∧ τ'.2 = τ.2 := by
  obtain ⟨b1, b2, b3, b4, c8, c9, c10, hGi⟩ := hM
  rw [← h2]
  exact hGi τ (by rw [h1]) (fun j _ => by rw [h1]) kd hk
theorem hsum_ {a b d h m f : Nat} (hb : b < 2) (hd : d < 2 ^ 4) (hh : h < 2 ^ 4) (hm : m < 2 ^ 10) (hf : f < 2 ^ 7) (ha : a < 2) : 2 ^ 27 * 1 ||| (2 ^ 26 * a ||| (2 ^ 25 * b ||| (2 ^ 21 * d ||| (2 ^ 17 * h ||| (2 ^ 7 * m ||| f))))) = 2 ^ 27 + 2 ^ 26 * a + 2 ^ 25 * b + 2 ^ 21 * d + 2 ^ 17 * h + 2 ^ 7 * m + f := by
  rw [← Nat.two_pow_add_eq_or_of_lt (i := 7) hf m, ← Nat.two_pow_add_eq_or_of_lt (i := 17) (by omega) h, ← Nat.two_pow_add_eq_or_of_lt (i := 21) (by omega) d, ← Nat.two_pow_add_eq_or_of_lt (i := 25) (by omega) b, ← Nat.two_pow_add_eq_or_of_lt (i := 26) (by omega) a, ← Nat.two_pow_add_eq_or_of_lt (i := 27) (by omega) 1]
  omega
