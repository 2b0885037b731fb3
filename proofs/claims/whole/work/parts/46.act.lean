/-! ACTS -/
def cR (σ : Mem) (b r : Nat) : Mem := sI (if 20 ≤ r then σ else sI σ 47 r (nI b)) 46 1 (nI (r + 1))
def mR (μ : Mem) (b r : Nat) : Mem := sI (if 20 ≤ r then μ else sI μ 15 r (nI b)) 0 35 (nI (r + 1))
def cL : List Nat → Mem → Nat → Mem
  | [], σ, _ => σ
  | b :: bs, σ, r => cL bs (cR σ b r) (r + 1)
def mL : List Nat → Mem → Nat → Mem
  | [], μ, _ => μ
  | b :: bs, μ, r => mL bs (mR μ b r) (r + 1)
theorem cR_off (σ : Mem) (b r : Nat) {c : Nat} (h1 : c ≠ 46) (h2 : c ≠ 47) : gI (cR σ b r) c = gI σ c := by
  unfold cR
  rw [gIr _ _ _ h1]
  split
  · rfl
  · exact gIr _ _ _ h2
theorem cR_46 (σ : Mem) (b r : Nat) {j : Nat} (h1 : j ≠ 1) : gI (cR σ b r) 46 j = gI σ 46 j := by
  unfold cR
  rw [gI_sk _ _ _ h1]
  split
  · rfl
  · exact gI_sc _ _ _ _ (by omega)
theorem cR_1 (σ : Mem) (b r : Nat) : gI (cR σ b r) 46 1 = nI (r + 1) := gI_ss _ _ _ _
theorem mR_off (μ : Mem) (b r : Nat) {c : Nat} (h1 : c ≠ 0) (h2 : c ≠ 15) : gI (mR μ b r) c = gI μ c := by
  unfold mR
  rw [gIr _ _ _ h1]
  split
  · rfl
  · exact gIr _ _ _ h2
theorem mR_0 (μ : Mem) (b r : Nat) {j : Nat} (h1 : j ≠ 35) : gI (mR μ b r) 0 j = gI μ 0 j := by
  unfold mR
  rw [gI_sk _ _ _ h1]
  split
  · rfl
  · exact gI_sc _ _ _ _ (by omega)
theorem mR_1 (μ : Mem) (b r : Nat) : gI (mR μ b r) 0 35 = nI (r + 1) := gI_ss _ _ _ _
theorem cL_off {c : Nat} (h1 : c ≠ 46) (h2 : c ≠ 47) : ∀ (bs : List Nat) (σ : Mem) (r : Nat), gI (cL bs σ r) c = gI σ c
  | [], _, _ => rfl
  | b :: bs, σ, r => (cL_off h1 h2 bs (cR σ b r) (r + 1)).trans (cR_off σ b r h1 h2)
theorem cL_46 {j : Nat} (h1 : j ≠ 1) : ∀ (bs : List Nat) (σ : Mem) (r : Nat), gI (cL bs σ r) 46 j = gI σ 46 j
  | [], _, _ => rfl
  | b :: bs, σ, r => (cL_46 h1 bs (cR σ b r) (r + 1)).trans (cR_46 σ b r h1)
theorem cL_1 : ∀ (bs : List Nat) (σ : Mem) (r : Nat), gI σ 46 1 = nI r → gI (cL bs σ r) 46 1 = nI (r + bs.length)
  | [], _, _, h => h
  | b :: bs, σ, r, _ => by
    rw [show r + (b :: bs).length = r + 1 + bs.length by simp only [List.length_cons]; omega]
    exact cL_1 bs (cR σ b r) (r + 1) (cR_1 σ b r)
theorem mL_off {c : Nat} (h1 : c ≠ 0) (h2 : c ≠ 15) : ∀ (bs : List Nat) (μ : Mem) (r : Nat), gI (mL bs μ r) c = gI μ c
  | [], _, _ => rfl
  | b :: bs, μ, r => (mL_off h1 h2 bs (mR μ b r) (r + 1)).trans (mR_off μ b r h1 h2)
theorem mL_0 {j : Nat} (h1 : j ≠ 35) : ∀ (bs : List Nat) (μ : Mem) (r : Nat), gI (mL bs μ r) 0 j = gI μ 0 j
  | [], _, _ => rfl
  | b :: bs, μ, r => (mL_0 h1 bs (mR μ b r) (r + 1)).trans (mR_0 μ b r h1)
theorem mL_1 : ∀ (bs : List Nat) (μ : Mem) (r : Nat), gI μ 0 35 = nI r → gI (mL bs μ r) 0 35 = nI (r + bs.length)
  | [], _, _, h => h
  | b :: bs, μ, r, _ => by
    rw [show r + (b :: bs).length = r + 1 + bs.length by simp only [List.length_cons]; omega]
    exact mL_1 bs (mR μ b r) (r + 1) (mR_1 μ b r)
theorem cL_app : ∀ (as bs : List Nat) (σ : Mem) (r : Nat), cL (as ++ bs) σ r = cL bs (cL as σ r) (r + as.length)
  | [], _, _, _ => rfl
  | a :: as, bs, σ, r => by
    show cL (as ++ bs) (cR σ a r) (r + 1) = cL bs (cL as (cR σ a r) (r + 1)) (r + (as.length + 1))
    rw [cL_app as bs (cR σ a r) (r + 1), show r + (as.length + 1) = r + 1 + as.length by omega]
theorem mL_app : ∀ (as bs : List Nat) (μ : Mem) (r : Nat), mL (as ++ bs) μ r = mL bs (mL as μ r) (r + as.length)
  | [], _, _, _ => rfl
  | a :: as, bs, μ, r => by
    show mL (as ++ bs) (mR μ a r) (r + 1) = mL bs (mL as (mR μ a r) (r + 1)) (r + (as.length + 1))
    rw [mL_app as bs (mR μ a r) (r + 1), show r + (as.length + 1) = r + 1 + as.length by omega]
theorem tr_step {σ μ : Mem} {r : Nat} (b : Nat) (h : ∀ i, i < r → i < 20 → gI σ 47 i = gI μ 15 i) : ∀ i, i < r + 1 → i < 20 → gI (cR σ b r) 47 i = gI (mR μ b r) 15 i := by
  intro i hi h2
  unfold cR mR
  rw [gI_sc _ _ _ _ (by omega), gI_sc _ _ _ _ (by omega)]
  by_cases q : 20 ≤ r
  · rw [if_pos q, if_pos q]
    exact h i (by omega) h2
  · rw [if_neg q, if_neg q]
    by_cases e : i = r
    · subst e
      rw [gI_ss, gI_ss]
    · rw [gI_sk _ _ _ e, gI_sk _ _ _ e]
      exact h i (by omega) h2
theorem tr_L : ∀ (bs : List Nat) (σ μ : Mem) (r : Nat), (∀ i, i < r → i < 20 → gI σ 47 i = gI μ 15 i) → ∀ i, i < r + bs.length → i < 20 → gI (cL bs σ r) 47 i = gI (mL bs μ r) 15 i
  | [], _, _, _, h => h
  | b :: bs, σ, μ, r, h => by
    rw [show r + (b :: bs).length = r + 1 + bs.length by simp only [List.length_cons]; omega]
    exact tr_L bs (cR σ b r) (mR μ b r) (r + 1) (tr_step b h)
/-! what the bodies bring -/
def rS (c : Nat) (i x : Int32) : Int32 := if c = 1 ∨ c = 6 then x * 3 + i else if c = 5 then (x + i) ^^^ i else x + i
def bS (c : Nat) : List Nat := if c = 1 ∨ c = 6 then [11, 1] else if c = 5 then [51, 1] else [1]
def rT (c : Nat) (i v x : Int32) : Int32 := if c = 6 then (rS c i x - v) + v else if c = 3 ∨ c = 4 ∨ c = 5 then -(rS c i x - v) else rS c i x - v
def bT (c : Nat) : List Nat := if c = 6 then 61 :: 2 :: bS c else if c = 3 ∨ c = 4 ∨ c = 5 then 31 :: 2 :: bS c else 2 :: bS c
def rL (c : Nat) (i v x : Int32) : Int32 := if c = 2 then (rT c i v x * 2) ^^^ 7 else if c = 4 ∨ c = 5 then rT c i v (x - 1) * 2 + rS c i 2 else rT c i v x * 2
def bL (c : Nat) : List Nat := if c = 2 then 21 :: 3 :: bT c else if c = 4 ∨ c = 5 then 41 :: 3 :: (bT c ++ bS c) else 3 :: bT c
def dBr (rc : Int32 → Int32 → Int32 → Int32 → Mem → Option (Int32 × Mem)) (x1 x2 x3 x4 : Int32) (σ : Mem) : Option (Int32 × Mem) :=
  if x1 = (1 : Int32) then some (x3 + gI σ 46 2, σ)
  else if x1 = (2 : Int32) then bd (rc (0 : Int32) (gI σ 46 3) x3 x4 σ) fun r τ => some (r - gI τ 46 4, τ)
  else if x1 = (3 : Int32) then bd (rc (1 : Int32) (gI σ 46 3) x3 x4 σ) fun r τ => some (r * (2 : Int32), τ)
  else if x1 = (11 : Int32) then bd (rc (0 : Int32) x2 (x3 * (3 : Int32)) x4 σ) fun r τ => some (r, τ)
  else if x1 = (21 : Int32) then bd (rc (2 : Int32) x2 x3 x4 σ) fun r τ => some (r ^^^ (7 : Int32), τ)
  else if x1 = (31 : Int32) then bd (rc (1 : Int32) x2 x3 x4 σ) fun r τ => some (-r, τ)
  else if x1 = (41 : Int32) then bd (rc (2 : Int32) x2 (x3 - (1 : Int32)) x4 σ) fun r τ => bd (rc (0 : Int32) (gI τ 46 3) (2 : Int32) x4 τ) fun r' τ' => some (r + r', τ')
  else if x1 = (51 : Int32) then bd (rc (0 : Int32) x2 x3 x4 σ) fun r τ => some (r ^^^ gI τ 46 2, τ)
  else bd (rc (1 : Int32) x2 x3 x4 σ) fun r τ => some (r + gI τ 46 4, τ)
theorem dB_ {σ : Mem} {r : Nat} (h : gI σ 46 1 = nI r) (hr : r < 2 ^ 30) (rc : Int32 → Int32 → Int32 → Int32 → Mem → Option (Int32 × Mem)) (b : Nat) (x2 x3 x4 : Int32) : f_X0_doBody rc (nI b) x2 x3 x4 σ = dBr rc (nI b) x2 x3 x4 (cR σ b r) := by
  have e : ∀ τ : Mem, gI τ 46 1 = nI r → f_X0_doBody_19 rc (nI b) x2 x3 x4 τ = dBr rc (nI b) x2 x3 x4 (sI τ 46 1 (nI (r + 1))) := by
    intro τ hτ
    show dBr rc (nI b) x2 x3 x4 (sI τ 46 1 (gI τ 46 1 + 1)) = _
    rw [hτ, nI_1]
  unfold f_X0_doBody cR
  by_cases q : 20 ≤ r
  · rw [if_pos q]
    simp (disch := omega) only [lt_eq, bd_some, bv_some, li, pk_mul, nI_add, nIsub, nIlt, nIle, nIeq, nIdiv, nIrem, neg_, pos_, ib_nI, gd_true, nI_tn, gI_ss, gI_sk, gI_sc, ↓reduceIte, nIn1b, h]
    exact e σ h
  · rw [if_neg q]
    simp (disch := omega) only [lt_eq, bd_some, bv_some, li, pk_mul, nI_add, nIsub, nIlt, nIle, nIeq, nIdiv, nIrem, neg_, pos_, ib_nI, gd_true, nI_tn, gI_ss, gI_sk, gI_sc, ↓reduceIte, nIn1b, h]
    exact e _ (by simp (disch := omega) only [gI_ss, gI_sk, gI_sc]; exact h)
theorem pf_here {a h x6 b : Nat} {ab : Int32} (rc : Int32 → Int32 → Int32 → Int32 → Mem → Option (Int32 × Mem)) (fu : Nat) (x : Int32) {dp : Nat} (σ : Mem) (hd : dp ≤ 40) (h6 : x6 < 7) (hb0 : 0 < b) (hb1 : b < 100) (e1 : f_X0_bodyOf (nI h) (nI a) σ = some (nI b, σ)) (e2 : f_X7_above (nI h) σ = some (ab, σ)) : fx6 (f_X0_perform_6 rc) (fu + 1) (nI a) x (nI dp) (nI h) (nI x6) σ = bd (f_X0_doBody rc (nI b) ab x (nI (dp + 1)) σ) fun r τ => some (r, τ) := by
  show f_X0_perform_6 rc (fx6 (f_X0_perform_6 rc) fu) _ _ _ _ _ _ = _
  generalize fx6 (f_X0_perform_6 rc) fu = kk
  unfold f_X0_perform_6 f_X0_perform_35
  simp (disch := omega) only [lt_eq, bd_some, bv_some, li, pk_mul, nI_add, nIsub, nIlt, nIle, nIeq, nIdiv, nIrem, neg_, pos_, ib_nI, gd_true, nI_tn, gI_ss, gI_sk, gI_sc, ↓reduceIte, nIn1b, e1, e2]
theorem pf_up {a c c' x6 : Nat} (rc : Int32 → Int32 → Int32 → Int32 → Mem → Option (Int32 × Mem)) (fu : Nat) (x : Int32) {dp : Nat} (σ : Mem) (h6 : x6 < 7) (e1 : f_X0_bodyOf (nI c) (nI a) σ = some (nI 0, σ)) (e2 : f_X7_above (nI c) σ = some (nI c', σ)) : fx6 (f_X0_perform_6 rc) (fu + 1) (nI a) x (nI dp) (nI c) (nI x6) σ = fx6 (f_X0_perform_6 rc) fu (nI a) x (nI dp) (nI c') (nI (x6 + 1)) σ := by
  show f_X0_perform_6 rc (fx6 (f_X0_perform_6 rc) fu) _ _ _ _ _ _ = _
  generalize fx6 (f_X0_perform_6 rc) fu = kk
  unfold f_X0_perform_6
  simp (disch := omega) only [lt_eq, bd_some, bv_some, li, pk_mul, nI_add, nIsub, nIlt, nIle, nIeq, nIdiv, nIrem, neg_, pos_, ib_nI, gd_true, nI_tn, gI_ss, gI_sk, gI_sc, ↓reduceIte, nIn1b, e1, e2]
theorem ab_0 (σ : Mem) : f_X7_above (nI 0) σ = some (-1, σ) := rfl
theorem bo_0_0 (σ : Mem) : f_X0_bodyOf (nI 0) (nI 0) σ = some (nI 1, σ) := rfl
theorem bo_0_1 (σ : Mem) : f_X0_bodyOf (nI 0) (nI 1) σ = some (nI 2, σ) := rfl
theorem bo_0_2 (σ : Mem) : f_X0_bodyOf (nI 0) (nI 2) σ = some (nI 3, σ) := rfl
theorem ab_1 (σ : Mem) : f_X7_above (nI 1) σ = some (nI 0, σ) := rfl
theorem bo_1_0 (σ : Mem) : f_X0_bodyOf (nI 1) (nI 0) σ = some (nI 11, σ) := rfl
theorem bo_1_1 (σ : Mem) : f_X0_bodyOf (nI 1) (nI 1) σ = some (nI 0, σ) := rfl
theorem bo_1_2 (σ : Mem) : f_X0_bodyOf (nI 1) (nI 2) σ = some (nI 0, σ) := rfl
theorem ab_2 (σ : Mem) : f_X7_above (nI 2) σ = some (nI 0, σ) := rfl
theorem bo_2_0 (σ : Mem) : f_X0_bodyOf (nI 2) (nI 0) σ = some (nI 0, σ) := rfl
theorem bo_2_1 (σ : Mem) : f_X0_bodyOf (nI 2) (nI 1) σ = some (nI 0, σ) := rfl
theorem bo_2_2 (σ : Mem) : f_X0_bodyOf (nI 2) (nI 2) σ = some (nI 21, σ) := rfl
theorem ab_3 (σ : Mem) : f_X7_above (nI 3) σ = some (nI 0, σ) := rfl
theorem bo_3_0 (σ : Mem) : f_X0_bodyOf (nI 3) (nI 0) σ = some (nI 0, σ) := rfl
theorem bo_3_1 (σ : Mem) : f_X0_bodyOf (nI 3) (nI 1) σ = some (nI 31, σ) := rfl
theorem bo_3_2 (σ : Mem) : f_X0_bodyOf (nI 3) (nI 2) σ = some (nI 0, σ) := rfl
theorem ab_4 (σ : Mem) : f_X7_above (nI 4) σ = some (nI 3, σ) := rfl
theorem bo_4_0 (σ : Mem) : f_X0_bodyOf (nI 4) (nI 0) σ = some (nI 0, σ) := rfl
theorem bo_4_1 (σ : Mem) : f_X0_bodyOf (nI 4) (nI 1) σ = some (nI 0, σ) := rfl
theorem bo_4_2 (σ : Mem) : f_X0_bodyOf (nI 4) (nI 2) σ = some (nI 41, σ) := rfl
theorem ab_5 (σ : Mem) : f_X7_above (nI 5) σ = some (nI 4, σ) := rfl
theorem bo_5_0 (σ : Mem) : f_X0_bodyOf (nI 5) (nI 0) σ = some (nI 51, σ) := rfl
theorem bo_5_1 (σ : Mem) : f_X0_bodyOf (nI 5) (nI 1) σ = some (nI 0, σ) := rfl
theorem bo_5_2 (σ : Mem) : f_X0_bodyOf (nI 5) (nI 2) σ = some (nI 0, σ) := rfl
theorem ab_6 (σ : Mem) : f_X7_above (nI 6) σ = some (nI 1, σ) := rfl
theorem bo_6_0 (σ : Mem) : f_X0_bodyOf (nI 6) (nI 0) σ = some (nI 0, σ) := rfl
theorem bo_6_1 (σ : Mem) : f_X0_bodyOf (nI 6) (nI 1) σ = some (nI 61, σ) := rfl
theorem bo_6_2 (σ : Mem) : f_X0_bodyOf (nI 6) (nI 2) σ = some (nI 0, σ) := rfl
theorem pfa_0_0 (n : Nat) (x : Int32) {dp : Nat} (hd : dp ≤ 40) (σ : Mem) : fx5 f_X0_perform_F (n + 1) (nI 0) (nI 0) x (nI dp) σ = bd (f_X0_doBody (fx5 f_X0_perform_F n) (nI 1) (-1) x (nI (dp + 1)) σ) fun r τ => some (r, τ) := by
  have key : ∀ fu : Nat, fx6 (f_X0_perform_6 (fx5 f_X0_perform_F n)) (fu + 8) (nI 0) x (nI dp) (nI 0) (nI 0) σ = bd (f_X0_doBody (fx5 f_X0_perform_F n) (nI 1) (-1) x (nI (dp + 1)) σ) fun r τ => some (r, τ) := fun fu => pf_here (x6 := 0) (fx5 f_X0_perform_F n) (fu + 7) x σ hd (by omega) (by omega) (by omega) (bo_0_0 σ) (ab_0 σ)
  exact key 5992
theorem pfa_0_1 (n : Nat) (x : Int32) {dp : Nat} (hd : dp ≤ 40) (σ : Mem) : fx5 f_X0_perform_F (n + 1) (nI 0) (nI 1) x (nI dp) σ = bd (f_X0_doBody (fx5 f_X0_perform_F n) (nI 11) (nI 0) x (nI (dp + 1)) σ) fun r τ => some (r, τ) := by
  have key : ∀ fu : Nat, fx6 (f_X0_perform_6 (fx5 f_X0_perform_F n)) (fu + 8) (nI 0) x (nI dp) (nI 1) (nI 0) σ = bd (f_X0_doBody (fx5 f_X0_perform_F n) (nI 11) (nI 0) x (nI (dp + 1)) σ) fun r τ => some (r, τ) := fun fu => pf_here (x6 := 0) (fx5 f_X0_perform_F n) (fu + 7) x σ hd (by omega) (by omega) (by omega) (bo_1_0 σ) (ab_1 σ)
  exact key 5992
theorem pfa_0_2 (n : Nat) (x : Int32) {dp : Nat} (hd : dp ≤ 40) (σ : Mem) : fx5 f_X0_perform_F (n + 1) (nI 0) (nI 2) x (nI dp) σ = bd (f_X0_doBody (fx5 f_X0_perform_F n) (nI 1) (-1) x (nI (dp + 1)) σ) fun r τ => some (r, τ) := by
  have key : ∀ fu : Nat, fx6 (f_X0_perform_6 (fx5 f_X0_perform_F n)) (fu + 8) (nI 0) x (nI dp) (nI 2) (nI 0) σ = bd (f_X0_doBody (fx5 f_X0_perform_F n) (nI 1) (-1) x (nI (dp + 1)) σ) fun r τ => some (r, τ) := fun fu => (pf_up (x6 := 0) (fx5 f_X0_perform_F n) (fu + 7) x σ (by omega) (bo_2_0 σ) (ab_2 σ)).trans (pf_here (x6 := 1) (fx5 f_X0_perform_F n) (fu + 6) x σ hd (by omega) (by omega) (by omega) (bo_0_0 σ) (ab_0 σ))
  exact key 5992
theorem pfa_0_3 (n : Nat) (x : Int32) {dp : Nat} (hd : dp ≤ 40) (σ : Mem) : fx5 f_X0_perform_F (n + 1) (nI 0) (nI 3) x (nI dp) σ = bd (f_X0_doBody (fx5 f_X0_perform_F n) (nI 1) (-1) x (nI (dp + 1)) σ) fun r τ => some (r, τ) := by
  have key : ∀ fu : Nat, fx6 (f_X0_perform_6 (fx5 f_X0_perform_F n)) (fu + 8) (nI 0) x (nI dp) (nI 3) (nI 0) σ = bd (f_X0_doBody (fx5 f_X0_perform_F n) (nI 1) (-1) x (nI (dp + 1)) σ) fun r τ => some (r, τ) := fun fu => (pf_up (x6 := 0) (fx5 f_X0_perform_F n) (fu + 7) x σ (by omega) (bo_3_0 σ) (ab_3 σ)).trans (pf_here (x6 := 1) (fx5 f_X0_perform_F n) (fu + 6) x σ hd (by omega) (by omega) (by omega) (bo_0_0 σ) (ab_0 σ))
  exact key 5992
theorem pfa_0_4 (n : Nat) (x : Int32) {dp : Nat} (hd : dp ≤ 40) (σ : Mem) : fx5 f_X0_perform_F (n + 1) (nI 0) (nI 4) x (nI dp) σ = bd (f_X0_doBody (fx5 f_X0_perform_F n) (nI 1) (-1) x (nI (dp + 1)) σ) fun r τ => some (r, τ) := by
  have key : ∀ fu : Nat, fx6 (f_X0_perform_6 (fx5 f_X0_perform_F n)) (fu + 8) (nI 0) x (nI dp) (nI 4) (nI 0) σ = bd (f_X0_doBody (fx5 f_X0_perform_F n) (nI 1) (-1) x (nI (dp + 1)) σ) fun r τ => some (r, τ) := fun fu => (pf_up (x6 := 0) (fx5 f_X0_perform_F n) (fu + 7) x σ (by omega) (bo_4_0 σ) (ab_4 σ)).trans ((pf_up (x6 := 1) (fx5 f_X0_perform_F n) (fu + 6) x σ (by omega) (bo_3_0 σ) (ab_3 σ)).trans (pf_here (x6 := 2) (fx5 f_X0_perform_F n) (fu + 5) x σ hd (by omega) (by omega) (by omega) (bo_0_0 σ) (ab_0 σ)))
  exact key 5992
theorem pfa_0_5 (n : Nat) (x : Int32) {dp : Nat} (hd : dp ≤ 40) (σ : Mem) : fx5 f_X0_perform_F (n + 1) (nI 0) (nI 5) x (nI dp) σ = bd (f_X0_doBody (fx5 f_X0_perform_F n) (nI 51) (nI 4) x (nI (dp + 1)) σ) fun r τ => some (r, τ) := by
  have key : ∀ fu : Nat, fx6 (f_X0_perform_6 (fx5 f_X0_perform_F n)) (fu + 8) (nI 0) x (nI dp) (nI 5) (nI 0) σ = bd (f_X0_doBody (fx5 f_X0_perform_F n) (nI 51) (nI 4) x (nI (dp + 1)) σ) fun r τ => some (r, τ) := fun fu => pf_here (x6 := 0) (fx5 f_X0_perform_F n) (fu + 7) x σ hd (by omega) (by omega) (by omega) (bo_5_0 σ) (ab_5 σ)
  exact key 5992
theorem pfa_0_6 (n : Nat) (x : Int32) {dp : Nat} (hd : dp ≤ 40) (σ : Mem) : fx5 f_X0_perform_F (n + 1) (nI 0) (nI 6) x (nI dp) σ = bd (f_X0_doBody (fx5 f_X0_perform_F n) (nI 11) (nI 0) x (nI (dp + 1)) σ) fun r τ => some (r, τ) := by
  have key : ∀ fu : Nat, fx6 (f_X0_perform_6 (fx5 f_X0_perform_F n)) (fu + 8) (nI 0) x (nI dp) (nI 6) (nI 0) σ = bd (f_X0_doBody (fx5 f_X0_perform_F n) (nI 11) (nI 0) x (nI (dp + 1)) σ) fun r τ => some (r, τ) := fun fu => (pf_up (x6 := 0) (fx5 f_X0_perform_F n) (fu + 7) x σ (by omega) (bo_6_0 σ) (ab_6 σ)).trans (pf_here (x6 := 1) (fx5 f_X0_perform_F n) (fu + 6) x σ hd (by omega) (by omega) (by omega) (bo_1_0 σ) (ab_1 σ))
  exact key 5992
theorem pfa_1_0 (n : Nat) (x : Int32) {dp : Nat} (hd : dp ≤ 40) (σ : Mem) : fx5 f_X0_perform_F (n + 1) (nI 1) (nI 0) x (nI dp) σ = bd (f_X0_doBody (fx5 f_X0_perform_F n) (nI 2) (-1) x (nI (dp + 1)) σ) fun r τ => some (r, τ) := by
  have key : ∀ fu : Nat, fx6 (f_X0_perform_6 (fx5 f_X0_perform_F n)) (fu + 8) (nI 1) x (nI dp) (nI 0) (nI 0) σ = bd (f_X0_doBody (fx5 f_X0_perform_F n) (nI 2) (-1) x (nI (dp + 1)) σ) fun r τ => some (r, τ) := fun fu => pf_here (x6 := 0) (fx5 f_X0_perform_F n) (fu + 7) x σ hd (by omega) (by omega) (by omega) (bo_0_1 σ) (ab_0 σ)
  exact key 5992
theorem pfa_1_1 (n : Nat) (x : Int32) {dp : Nat} (hd : dp ≤ 40) (σ : Mem) : fx5 f_X0_perform_F (n + 1) (nI 1) (nI 1) x (nI dp) σ = bd (f_X0_doBody (fx5 f_X0_perform_F n) (nI 2) (-1) x (nI (dp + 1)) σ) fun r τ => some (r, τ) := by
  have key : ∀ fu : Nat, fx6 (f_X0_perform_6 (fx5 f_X0_perform_F n)) (fu + 8) (nI 1) x (nI dp) (nI 1) (nI 0) σ = bd (f_X0_doBody (fx5 f_X0_perform_F n) (nI 2) (-1) x (nI (dp + 1)) σ) fun r τ => some (r, τ) := fun fu => (pf_up (x6 := 0) (fx5 f_X0_perform_F n) (fu + 7) x σ (by omega) (bo_1_1 σ) (ab_1 σ)).trans (pf_here (x6 := 1) (fx5 f_X0_perform_F n) (fu + 6) x σ hd (by omega) (by omega) (by omega) (bo_0_1 σ) (ab_0 σ))
  exact key 5992
theorem pfa_1_2 (n : Nat) (x : Int32) {dp : Nat} (hd : dp ≤ 40) (σ : Mem) : fx5 f_X0_perform_F (n + 1) (nI 1) (nI 2) x (nI dp) σ = bd (f_X0_doBody (fx5 f_X0_perform_F n) (nI 2) (-1) x (nI (dp + 1)) σ) fun r τ => some (r, τ) := by
  have key : ∀ fu : Nat, fx6 (f_X0_perform_6 (fx5 f_X0_perform_F n)) (fu + 8) (nI 1) x (nI dp) (nI 2) (nI 0) σ = bd (f_X0_doBody (fx5 f_X0_perform_F n) (nI 2) (-1) x (nI (dp + 1)) σ) fun r τ => some (r, τ) := fun fu => (pf_up (x6 := 0) (fx5 f_X0_perform_F n) (fu + 7) x σ (by omega) (bo_2_1 σ) (ab_2 σ)).trans (pf_here (x6 := 1) (fx5 f_X0_perform_F n) (fu + 6) x σ hd (by omega) (by omega) (by omega) (bo_0_1 σ) (ab_0 σ))
  exact key 5992
theorem pfa_1_3 (n : Nat) (x : Int32) {dp : Nat} (hd : dp ≤ 40) (σ : Mem) : fx5 f_X0_perform_F (n + 1) (nI 1) (nI 3) x (nI dp) σ = bd (f_X0_doBody (fx5 f_X0_perform_F n) (nI 31) (nI 0) x (nI (dp + 1)) σ) fun r τ => some (r, τ) := by
  have key : ∀ fu : Nat, fx6 (f_X0_perform_6 (fx5 f_X0_perform_F n)) (fu + 8) (nI 1) x (nI dp) (nI 3) (nI 0) σ = bd (f_X0_doBody (fx5 f_X0_perform_F n) (nI 31) (nI 0) x (nI (dp + 1)) σ) fun r τ => some (r, τ) := fun fu => pf_here (x6 := 0) (fx5 f_X0_perform_F n) (fu + 7) x σ hd (by omega) (by omega) (by omega) (bo_3_1 σ) (ab_3 σ)
  exact key 5992
theorem pfa_1_4 (n : Nat) (x : Int32) {dp : Nat} (hd : dp ≤ 40) (σ : Mem) : fx5 f_X0_perform_F (n + 1) (nI 1) (nI 4) x (nI dp) σ = bd (f_X0_doBody (fx5 f_X0_perform_F n) (nI 31) (nI 0) x (nI (dp + 1)) σ) fun r τ => some (r, τ) := by
  have key : ∀ fu : Nat, fx6 (f_X0_perform_6 (fx5 f_X0_perform_F n)) (fu + 8) (nI 1) x (nI dp) (nI 4) (nI 0) σ = bd (f_X0_doBody (fx5 f_X0_perform_F n) (nI 31) (nI 0) x (nI (dp + 1)) σ) fun r τ => some (r, τ) := fun fu => (pf_up (x6 := 0) (fx5 f_X0_perform_F n) (fu + 7) x σ (by omega) (bo_4_1 σ) (ab_4 σ)).trans (pf_here (x6 := 1) (fx5 f_X0_perform_F n) (fu + 6) x σ hd (by omega) (by omega) (by omega) (bo_3_1 σ) (ab_3 σ))
  exact key 5992
theorem pfa_1_5 (n : Nat) (x : Int32) {dp : Nat} (hd : dp ≤ 40) (σ : Mem) : fx5 f_X0_perform_F (n + 1) (nI 1) (nI 5) x (nI dp) σ = bd (f_X0_doBody (fx5 f_X0_perform_F n) (nI 31) (nI 0) x (nI (dp + 1)) σ) fun r τ => some (r, τ) := by
  have key : ∀ fu : Nat, fx6 (f_X0_perform_6 (fx5 f_X0_perform_F n)) (fu + 8) (nI 1) x (nI dp) (nI 5) (nI 0) σ = bd (f_X0_doBody (fx5 f_X0_perform_F n) (nI 31) (nI 0) x (nI (dp + 1)) σ) fun r τ => some (r, τ) := fun fu => (pf_up (x6 := 0) (fx5 f_X0_perform_F n) (fu + 7) x σ (by omega) (bo_5_1 σ) (ab_5 σ)).trans ((pf_up (x6 := 1) (fx5 f_X0_perform_F n) (fu + 6) x σ (by omega) (bo_4_1 σ) (ab_4 σ)).trans (pf_here (x6 := 2) (fx5 f_X0_perform_F n) (fu + 5) x σ hd (by omega) (by omega) (by omega) (bo_3_1 σ) (ab_3 σ)))
  exact key 5992
theorem pfa_1_6 (n : Nat) (x : Int32) {dp : Nat} (hd : dp ≤ 40) (σ : Mem) : fx5 f_X0_perform_F (n + 1) (nI 1) (nI 6) x (nI dp) σ = bd (f_X0_doBody (fx5 f_X0_perform_F n) (nI 61) (nI 1) x (nI (dp + 1)) σ) fun r τ => some (r, τ) := by
  have key : ∀ fu : Nat, fx6 (f_X0_perform_6 (fx5 f_X0_perform_F n)) (fu + 8) (nI 1) x (nI dp) (nI 6) (nI 0) σ = bd (f_X0_doBody (fx5 f_X0_perform_F n) (nI 61) (nI 1) x (nI (dp + 1)) σ) fun r τ => some (r, τ) := fun fu => pf_here (x6 := 0) (fx5 f_X0_perform_F n) (fu + 7) x σ hd (by omega) (by omega) (by omega) (bo_6_1 σ) (ab_6 σ)
  exact key 5992
theorem pfa_2_0 (n : Nat) (x : Int32) {dp : Nat} (hd : dp ≤ 40) (σ : Mem) : fx5 f_X0_perform_F (n + 1) (nI 2) (nI 0) x (nI dp) σ = bd (f_X0_doBody (fx5 f_X0_perform_F n) (nI 3) (-1) x (nI (dp + 1)) σ) fun r τ => some (r, τ) := by
  have key : ∀ fu : Nat, fx6 (f_X0_perform_6 (fx5 f_X0_perform_F n)) (fu + 8) (nI 2) x (nI dp) (nI 0) (nI 0) σ = bd (f_X0_doBody (fx5 f_X0_perform_F n) (nI 3) (-1) x (nI (dp + 1)) σ) fun r τ => some (r, τ) := fun fu => pf_here (x6 := 0) (fx5 f_X0_perform_F n) (fu + 7) x σ hd (by omega) (by omega) (by omega) (bo_0_2 σ) (ab_0 σ)
  exact key 5992
theorem pfa_2_1 (n : Nat) (x : Int32) {dp : Nat} (hd : dp ≤ 40) (σ : Mem) : fx5 f_X0_perform_F (n + 1) (nI 2) (nI 1) x (nI dp) σ = bd (f_X0_doBody (fx5 f_X0_perform_F n) (nI 3) (-1) x (nI (dp + 1)) σ) fun r τ => some (r, τ) := by
  have key : ∀ fu : Nat, fx6 (f_X0_perform_6 (fx5 f_X0_perform_F n)) (fu + 8) (nI 2) x (nI dp) (nI 1) (nI 0) σ = bd (f_X0_doBody (fx5 f_X0_perform_F n) (nI 3) (-1) x (nI (dp + 1)) σ) fun r τ => some (r, τ) := fun fu => (pf_up (x6 := 0) (fx5 f_X0_perform_F n) (fu + 7) x σ (by omega) (bo_1_2 σ) (ab_1 σ)).trans (pf_here (x6 := 1) (fx5 f_X0_perform_F n) (fu + 6) x σ hd (by omega) (by omega) (by omega) (bo_0_2 σ) (ab_0 σ))
  exact key 5992
theorem pfa_2_2 (n : Nat) (x : Int32) {dp : Nat} (hd : dp ≤ 40) (σ : Mem) : fx5 f_X0_perform_F (n + 1) (nI 2) (nI 2) x (nI dp) σ = bd (f_X0_doBody (fx5 f_X0_perform_F n) (nI 21) (nI 0) x (nI (dp + 1)) σ) fun r τ => some (r, τ) := by
  have key : ∀ fu : Nat, fx6 (f_X0_perform_6 (fx5 f_X0_perform_F n)) (fu + 8) (nI 2) x (nI dp) (nI 2) (nI 0) σ = bd (f_X0_doBody (fx5 f_X0_perform_F n) (nI 21) (nI 0) x (nI (dp + 1)) σ) fun r τ => some (r, τ) := fun fu => pf_here (x6 := 0) (fx5 f_X0_perform_F n) (fu + 7) x σ hd (by omega) (by omega) (by omega) (bo_2_2 σ) (ab_2 σ)
  exact key 5992
theorem pfa_2_3 (n : Nat) (x : Int32) {dp : Nat} (hd : dp ≤ 40) (σ : Mem) : fx5 f_X0_perform_F (n + 1) (nI 2) (nI 3) x (nI dp) σ = bd (f_X0_doBody (fx5 f_X0_perform_F n) (nI 3) (-1) x (nI (dp + 1)) σ) fun r τ => some (r, τ) := by
  have key : ∀ fu : Nat, fx6 (f_X0_perform_6 (fx5 f_X0_perform_F n)) (fu + 8) (nI 2) x (nI dp) (nI 3) (nI 0) σ = bd (f_X0_doBody (fx5 f_X0_perform_F n) (nI 3) (-1) x (nI (dp + 1)) σ) fun r τ => some (r, τ) := fun fu => (pf_up (x6 := 0) (fx5 f_X0_perform_F n) (fu + 7) x σ (by omega) (bo_3_2 σ) (ab_3 σ)).trans (pf_here (x6 := 1) (fx5 f_X0_perform_F n) (fu + 6) x σ hd (by omega) (by omega) (by omega) (bo_0_2 σ) (ab_0 σ))
  exact key 5992
theorem pfa_2_4 (n : Nat) (x : Int32) {dp : Nat} (hd : dp ≤ 40) (σ : Mem) : fx5 f_X0_perform_F (n + 1) (nI 2) (nI 4) x (nI dp) σ = bd (f_X0_doBody (fx5 f_X0_perform_F n) (nI 41) (nI 3) x (nI (dp + 1)) σ) fun r τ => some (r, τ) := by
  have key : ∀ fu : Nat, fx6 (f_X0_perform_6 (fx5 f_X0_perform_F n)) (fu + 8) (nI 2) x (nI dp) (nI 4) (nI 0) σ = bd (f_X0_doBody (fx5 f_X0_perform_F n) (nI 41) (nI 3) x (nI (dp + 1)) σ) fun r τ => some (r, τ) := fun fu => pf_here (x6 := 0) (fx5 f_X0_perform_F n) (fu + 7) x σ hd (by omega) (by omega) (by omega) (bo_4_2 σ) (ab_4 σ)
  exact key 5992
theorem pfa_2_5 (n : Nat) (x : Int32) {dp : Nat} (hd : dp ≤ 40) (σ : Mem) : fx5 f_X0_perform_F (n + 1) (nI 2) (nI 5) x (nI dp) σ = bd (f_X0_doBody (fx5 f_X0_perform_F n) (nI 41) (nI 3) x (nI (dp + 1)) σ) fun r τ => some (r, τ) := by
  have key : ∀ fu : Nat, fx6 (f_X0_perform_6 (fx5 f_X0_perform_F n)) (fu + 8) (nI 2) x (nI dp) (nI 5) (nI 0) σ = bd (f_X0_doBody (fx5 f_X0_perform_F n) (nI 41) (nI 3) x (nI (dp + 1)) σ) fun r τ => some (r, τ) := fun fu => (pf_up (x6 := 0) (fx5 f_X0_perform_F n) (fu + 7) x σ (by omega) (bo_5_2 σ) (ab_5 σ)).trans (pf_here (x6 := 1) (fx5 f_X0_perform_F n) (fu + 6) x σ hd (by omega) (by omega) (by omega) (bo_4_2 σ) (ab_4 σ))
  exact key 5992
theorem pfa_2_6 (n : Nat) (x : Int32) {dp : Nat} (hd : dp ≤ 40) (σ : Mem) : fx5 f_X0_perform_F (n + 1) (nI 2) (nI 6) x (nI dp) σ = bd (f_X0_doBody (fx5 f_X0_perform_F n) (nI 3) (-1) x (nI (dp + 1)) σ) fun r τ => some (r, τ) := by
  have key : ∀ fu : Nat, fx6 (f_X0_perform_6 (fx5 f_X0_perform_F n)) (fu + 8) (nI 2) x (nI dp) (nI 6) (nI 0) σ = bd (f_X0_doBody (fx5 f_X0_perform_F n) (nI 3) (-1) x (nI (dp + 1)) σ) fun r τ => some (r, τ) := fun fu => (pf_up (x6 := 0) (fx5 f_X0_perform_F n) (fu + 7) x σ (by omega) (bo_6_2 σ) (ab_6 σ)).trans ((pf_up (x6 := 1) (fx5 f_X0_perform_F n) (fu + 6) x σ (by omega) (bo_1_2 σ) (ab_1 σ)).trans (pf_here (x6 := 2) (fx5 f_X0_perform_F n) (fu + 5) x σ hd (by omega) (by omega) (by omega) (bo_0_2 σ) (ab_0 σ)))
  exact key 5992
theorem cSets {σ : Mem} {c r : Nat} {i : Int32} (n : Nat) {dp : Nat} (hd : dp ≤ 30) (hc : c < 7) (hr : r < 1000) (h1 : gI σ 46 1 = nI r) (h2 : gI σ 46 2 = i) (x : Int32) : fx5 f_X0_perform_F (n + 2) (nI 0) (nI c) x (nI dp) σ = some (rS c i x, cL (bS c) σ r) := by
  have e1 : ∀ (m dp' : Nat) (y : Int32) (ab : Int32), f_X0_doBody (fx5 f_X0_perform_F m) (nI 1) ab y (nI dp') σ = some (y + i, cR σ 1 r) := fun m dp' y ab => by
    rw [dB_ h1 (by omega)]
    show some (y + gI (cR σ 1 r) 46 2, cR σ 1 r) = _
    rw [cR_46 _ _ _ (by omega), h2]
  have e2 : ∀ (b m dp' : Nat) (y : Int32) (ab : Int32), f_X0_doBody (fx5 f_X0_perform_F m) (nI 1) ab y (nI dp') (cR σ b r) = some (y + i, cR (cR σ b r) 1 (r + 1)) := fun b m dp' y ab => by
    rw [dB_ (cR_1 σ b r) (by omega)]
    show some (y + gI (cR (cR σ b r) 1 (r + 1)) 46 2, cR (cR σ b r) 1 (r + 1)) = _
    rw [cR_46 _ _ _ (by omega), cR_46 _ _ _ (by omega), h2]
  rcases (show c = 0 ∨ c = 1 ∨ c = 2 ∨ c = 3 ∨ c = 4 ∨ c = 5 ∨ c = 6 by omega) with rfl | rfl | rfl | rfl | rfl | rfl | rfl
  · rw [pfa_0_0 _ _ (by omega), e1]
    rfl
  · rw [pfa_0_1 _ _ (by omega), dB_ h1 (by omega)]
    show bd (bd (fx5 f_X0_perform_F (n + 1) (nI 0) (nI 0) (x * 3) (nI (dp + 1)) (cR σ 11 r)) fun r τ => some (r, τ)) _ = _
    rw [pfa_0_0 _ _ (by omega), e2]
    rfl
  · rw [pfa_0_2 _ _ (by omega), e1]
    rfl
  · rw [pfa_0_3 _ _ (by omega), e1]
    rfl
  · rw [pfa_0_4 _ _ (by omega), e1]
    rfl
  · rw [pfa_0_5 _ _ (by omega), dB_ h1 (by omega)]
    show bd (bd (fx5 f_X0_perform_F (n + 1) (nI 0) (nI 4) x (nI (dp + 1)) (cR σ 51 r)) fun r τ => some (r ^^^ gI τ 46 2, τ)) _ = _
    rw [pfa_0_4 _ _ (by omega), e2]
    show some ((x + i) ^^^ gI (cR (cR σ 51 r) 1 (r + 1)) 46 2, cR (cR σ 51 r) 1 (r + 1)) = _
    rw [cR_46 _ _ _ (by omega), cR_46 _ _ _ (by omega), h2]
    rfl
  · rw [pfa_0_6 _ _ (by omega), dB_ h1 (by omega)]
    show bd (bd (fx5 f_X0_perform_F (n + 1) (nI 0) (nI 0) (x * 3) (nI (dp + 1)) (cR σ 11 r)) fun r τ => some (r, τ)) _ = _
    rw [pfa_0_0 _ _ (by omega), e2]
    rfl
theorem cTurns {σ : Mem} {c r : Nat} {i v : Int32} (n : Nat) {dp : Nat} (hd : dp ≤ 20) (hc : c < 7) (hr : r < 900) (h1 : gI σ 46 1 = nI r) (h2 : gI σ 46 2 = i) (h3 : gI σ 46 3 = nI c) (h4 : gI σ 46 4 = v) (x : Int32) : fx5 f_X0_perform_F (n + 4) (nI 1) (nI c) x (nI dp) σ = some (rT c i v x, cL (bT c) σ r) := by
  have e1 : ∀ (m dp' r' : Nat) (σ' : Mem) (y : Int32) (ab : Int32), dp' ≤ 30 → r' < 950 → gI σ' 46 1 = nI r' → gI σ' 46 2 = i → gI σ' 46 3 = nI c → gI σ' 46 4 = v → f_X0_doBody (fx5 f_X0_perform_F (m + 2)) (nI 2) ab y (nI dp') σ' = some (rS c i y - v, cL (2 :: bS c) σ' r') := fun m dp' r' σ' y ab g1 g2 g3 g4 g5 g6 => by
    rw [dB_ g3 (by omega)]
    show bd (fx5 f_X0_perform_F (m + 2) (nI 0) (gI (cR σ' 2 r') 46 3) y (nI dp') (cR σ' 2 r')) (fun r τ => some (r - gI τ 46 4, τ)) = _
    rw [cR_46 _ _ _ (by omega), g5, cSets m g1 hc (r := r' + 1) (by omega) (cR_1 _ _ _) (i := i) (by rw [cR_46 _ _ _ (by omega)]; exact g4), bd_some, cL_46 (by omega), cR_46 _ _ _ (by omega), g6]
    rfl
  rcases (show c = 0 ∨ c = 1 ∨ c = 2 ∨ c = 3 ∨ c = 4 ∨ c = 5 ∨ c = 6 by omega) with rfl | rfl | rfl | rfl | rfl | rfl | rfl
  · rw [pfa_1_0 _ _ (by omega), e1 (n + 1) _ r σ x _ (by omega) (by omega) h1 h2 h3 h4]
    rfl
  · rw [pfa_1_1 _ _ (by omega), e1 (n + 1) _ r σ x _ (by omega) (by omega) h1 h2 h3 h4]
    rfl
  · rw [pfa_1_2 _ _ (by omega), e1 (n + 1) _ r σ x _ (by omega) (by omega) h1 h2 h3 h4]
    rfl
  · rw [pfa_1_3 _ _ (by omega), dB_ h1 (by omega)]
    show bd (bd (fx5 f_X0_perform_F (n + 3) (nI 1) (nI 0) x (nI (dp + 1)) (cR σ 31 r)) fun r τ => some (-r, τ)) _ = _
    rw [pfa_1_0 _ _ (by omega), e1 n _ (r + 1) (cR σ 31 r) x _ (by omega) (by omega) (cR_1 _ _ _) (by rw [cR_46 _ _ _ (by omega)]; exact h2) (by rw [cR_46 _ _ _ (by omega)]; exact h3) (by rw [cR_46 _ _ _ (by omega)]; exact h4)]
    rfl
  · rw [pfa_1_4 _ _ (by omega), dB_ h1 (by omega)]
    show bd (bd (fx5 f_X0_perform_F (n + 3) (nI 1) (nI 0) x (nI (dp + 1)) (cR σ 31 r)) fun r τ => some (-r, τ)) _ = _
    rw [pfa_1_0 _ _ (by omega), e1 n _ (r + 1) (cR σ 31 r) x _ (by omega) (by omega) (cR_1 _ _ _) (by rw [cR_46 _ _ _ (by omega)]; exact h2) (by rw [cR_46 _ _ _ (by omega)]; exact h3) (by rw [cR_46 _ _ _ (by omega)]; exact h4)]
    rfl
  · rw [pfa_1_5 _ _ (by omega), dB_ h1 (by omega)]
    show bd (bd (fx5 f_X0_perform_F (n + 3) (nI 1) (nI 0) x (nI (dp + 1)) (cR σ 31 r)) fun r τ => some (-r, τ)) _ = _
    rw [pfa_1_0 _ _ (by omega), e1 n _ (r + 1) (cR σ 31 r) x _ (by omega) (by omega) (cR_1 _ _ _) (by rw [cR_46 _ _ _ (by omega)]; exact h2) (by rw [cR_46 _ _ _ (by omega)]; exact h3) (by rw [cR_46 _ _ _ (by omega)]; exact h4)]
    rfl
  · rw [pfa_1_6 _ _ (by omega), dB_ h1 (by omega)]
    show bd (bd (fx5 f_X0_perform_F (n + 3) (nI 1) (nI 1) x (nI (dp + 1)) (cR σ 61 r)) fun r τ => some (r + gI τ 46 4, τ)) _ = _
    rw [pfa_1_1 _ _ (by omega), e1 n _ (r + 1) (cR σ 61 r) x _ (by omega) (by omega) (cR_1 _ _ _) (by rw [cR_46 _ _ _ (by omega)]; exact h2) (by rw [cR_46 _ _ _ (by omega)]; exact h3) (by rw [cR_46 _ _ _ (by omega)]; exact h4)]
    rw [bd_some, bd_some, bd_some, cL_46 (by omega), cR_46 _ _ _ (by omega), h4]
    rfl
theorem bT_len (c : Nat) : (bT c).length ≤ 10 := by
  unfold bT bS
  split <;> split <;> (try split) <;> (try split) <;> simp
theorem cTells {σ : Mem} {c r : Nat} {i v : Int32} (n : Nat) {dp : Nat} (hd : dp ≤ 10) (hc : c < 7) (hr : r < 800) (h1 : gI σ 46 1 = nI r) (h2 : gI σ 46 2 = i) (h3 : gI σ 46 3 = nI c) (h4 : gI σ 46 4 = v) (x : Int32) : fx5 f_X0_perform_F (n + 6) (nI 2) (nI c) x (nI dp) σ = some (rL c i v x, cL (bL c) σ r) := by
  have e1 : ∀ (m dp' r' : Nat) (σ' : Mem) (y : Int32) (ab : Int32), dp' ≤ 20 → r' < 850 → gI σ' 46 1 = nI r' → gI σ' 46 2 = i → gI σ' 46 3 = nI c → gI σ' 46 4 = v → f_X0_doBody (fx5 f_X0_perform_F (m + 4)) (nI 3) ab y (nI dp') σ' = some (rT c i v y * 2, cL (3 :: bT c) σ' r') := fun m dp' r' σ' y ab g1 g2 g3 g4 g5 g6 => by
    rw [dB_ g3 (by omega)]
    show bd (fx5 f_X0_perform_F (m + 4) (nI 1) (gI (cR σ' 3 r') 46 3) y (nI dp') (cR σ' 3 r')) (fun r τ => some (r * 2, τ)) = _
    rw [cR_46 _ _ _ (by omega), g5, cTurns m g1 hc (r := r' + 1) (by omega) (cR_1 _ _ _) (i := i) (v := v) (by rw [cR_46 _ _ _ (by omega)]; exact g4) (by rw [cR_46 _ _ _ (by omega)]; exact g5) (by rw [cR_46 _ _ _ (by omega)]; exact g6), bd_some]
    rfl
  rcases (show c = 0 ∨ c = 1 ∨ c = 2 ∨ c = 3 ∨ c = 4 ∨ c = 5 ∨ c = 6 by omega) with rfl | rfl | rfl | rfl | rfl | rfl | rfl
  · rw [pfa_2_0 _ _ (by omega), e1 (n + 1) _ r σ x _ (by omega) (by omega) h1 h2 h3 h4]
    rfl
  · rw [pfa_2_1 _ _ (by omega), e1 (n + 1) _ r σ x _ (by omega) (by omega) h1 h2 h3 h4]
    rfl
  · rw [pfa_2_2 _ _ (by omega), dB_ h1 (by omega)]
    show bd (bd (fx5 f_X0_perform_F (n + 5) (nI 2) (nI 0) x (nI (dp + 1)) (cR σ 21 r)) fun r τ => some (r ^^^ 7, τ)) _ = _
    rw [pfa_2_0 _ _ (by omega), e1 n _ (r + 1) (cR σ 21 r) x _ (by omega) (by omega) (cR_1 _ _ _) (by rw [cR_46 _ _ _ (by omega)]; exact h2) (by rw [cR_46 _ _ _ (by omega)]; exact h3) (by rw [cR_46 _ _ _ (by omega)]; exact h4)]
    rfl
  · rw [pfa_2_3 _ _ (by omega), e1 (n + 1) _ r σ x _ (by omega) (by omega) h1 h2 h3 h4]
    rfl
  · rw [pfa_2_4 _ _ (by omega), dB_ h1 (by omega)]
    show bd (bd (fx5 f_X0_perform_F (n + 5) (nI 2) (nI 3) (x - 1) (nI (dp + 1)) (cR σ 41 r)) fun r τ => bd (fx5 f_X0_perform_F (n + 5) (nI 0) (gI τ 46 3) 2 (nI (dp + 1)) τ) fun r' τ' => some (r + r', τ')) _ = _
    rw [pfa_2_3 _ _ (by omega), e1 n _ (r + 1) (cR σ 41 r) (x - 1) _ (by omega) (by omega) (cR_1 _ _ _) (by rw [cR_46 _ _ _ (by omega)]; exact h2) (by rw [cR_46 _ _ _ (by omega)]; exact h3) (by rw [cR_46 _ _ _ (by omega)]; exact h4)]
    have hl := bT_len 4
    rw [bd_some, bd_some, cL_46 (by omega), cR_46 _ _ _ (by omega), h3, cSets (n + 3) (by omega) (by omega) (r := r + 1 + (3 :: bT 4).length) (by simp only [List.length_cons]; omega) (cL_1 _ _ _ (cR_1 _ _ _)) (i := i) (by rw [cL_46 (by omega), cR_46 _ _ _ (by omega)]; exact h2), bd_some, bd_some]
    rw [← cL_app]
    rfl
  · rw [pfa_2_5 _ _ (by omega), dB_ h1 (by omega)]
    show bd (bd (fx5 f_X0_perform_F (n + 5) (nI 2) (nI 3) (x - 1) (nI (dp + 1)) (cR σ 41 r)) fun r τ => bd (fx5 f_X0_perform_F (n + 5) (nI 0) (gI τ 46 3) 2 (nI (dp + 1)) τ) fun r' τ' => some (r + r', τ')) _ = _
    rw [pfa_2_3 _ _ (by omega), e1 n _ (r + 1) (cR σ 41 r) (x - 1) _ (by omega) (by omega) (cR_1 _ _ _) (by rw [cR_46 _ _ _ (by omega)]; exact h2) (by rw [cR_46 _ _ _ (by omega)]; exact h3) (by rw [cR_46 _ _ _ (by omega)]; exact h4)]
    have hl := bT_len 5
    rw [bd_some, bd_some, cL_46 (by omega), cR_46 _ _ _ (by omega), h3, cSets (n + 3) (by omega) (by omega) (r := r + 1 + (3 :: bT 5).length) (by simp only [List.length_cons]; omega) (cL_1 _ _ _ (cR_1 _ _ _)) (i := i) (by rw [cL_46 (by omega), cR_46 _ _ _ (by omega)]; exact h2), bd_some, bd_some]
    rw [← cL_app]
    rfl
  · rw [pfa_2_6 _ _ (by omega), e1 (n + 1) _ r σ x _ (by omega) (by omega) h1 h2 h3 h4]
    rfl
theorem m_runs {μ : Mem} {r : Nat} (h : gI μ 0 35 = nI r) (hr : r < 2 ^ 30) (b : Nat) : f_X12_runs (nI b) μ = some (mR μ b r) := by
  unfold f_X12_runs f_X12_runs_19 mR
  by_cases q : 20 ≤ r
  · rw [if_pos q]
    simp (disch := omega) only [lt_eq, bd_some, bv_some, li, pk_mul, nI_add, nIsub, nIlt, nIle, nIeq, nIdiv, nIrem, neg_, pos_, ib_nI, gd_true, nI_tn, gI_ss, gI_sk, gI_sc, ↓reduceIte, nIn1b, h]
  · rw [if_neg q]
    simp (disch := omega) only [lt_eq, bd_some, bv_some, li, pk_mul, nI_add, nIsub, nIlt, nIle, nIeq, nIdiv, nIrem, neg_, pos_, ib_nI, gd_true, nI_tn, gI_ss, gI_sk, gI_sc, ↓reduceIte, nIn1b, h]
theorem m_under {c k : Nat} (hc : c < 7) (hk : k < 7) (τ : Mem) : f_X12_isUnder (nI c) (nI k) τ = some (bI (decide (k = 0 ∨ k = c ∨ (k = 3 ∧ (c = 4 ∨ c = 5)) ∨ (k = 4 ∧ c = 5) ∨ (k = 1 ∧ c = 6))), τ) := by
  rcases (show c = 0 ∨ c = 1 ∨ c = 2 ∨ c = 3 ∨ c = 4 ∨ c = 5 ∨ c = 6 by omega) with rfl | rfl | rfl | rfl | rfl | rfl | rfl <;>
  rcases (show k = 0 ∨ k = 1 ∨ k = 2 ∨ k = 3 ∨ k = 4 ∨ k = 5 ∨ k = 6 by omega) with rfl | rfl | rfl | rfl | rfl | rfl | rfl <;> rfl
theorem m_pSets {μ : Mem} {r : Nat} {i : Int32} (hr : r < 1000) (h1 : gI μ 0 35 = nI r) (h2 : gI μ 0 37 = i) (x : Int32) : f_X12_plainSets x μ = some (x + i, mR μ 1 r) := by
  unfold f_X12_plainSets
  rw [show (1 : Int32) = nI 1 from rfl, m_runs h1 (by omega), bv_some, mR_0 _ _ _ (by omega), h2]
theorem mSets {μ : Mem} {c r : Nat} {i : Int32} (hc : c < 7) (hr : r < 990) (h1 : gI μ 0 35 = nI r) (h2 : gI μ 0 37 = i) (h3 : gI μ 0 36 = nI c) (x : Int32) : f_X12_setsActs x μ = some (rS c i x, mL (bS c) μ r) := by
  have e0 : ∀ τ, f_X12_isUnder (nI c) 1 τ = _ := fun τ => m_under hc (show 1 < 7 by omega) τ
  unfold f_X12_setsActs
  rw [h3, e0, bd_some]
  rcases (show c = 0 ∨ c = 1 ∨ c = 2 ∨ c = 3 ∨ c = 4 ∨ c = 5 ∨ c = 6 by omega) with rfl | rfl | rfl | rfl | rfl | rfl | rfl
  · rw [if_pos (by rfl), h3, if_neg (by decide), m_pSets (by omega) h1 h2]
    rfl
  · rw [if_neg (by decide), show (11 : Int32) = nI 11 from rfl, m_runs h1 (by omega), bv_some, m_pSets (r := r + 1) (by omega) (mR_1 _ _ _) (i := i) (by rw [mR_0 _ _ _ (by omega)]; exact h2)]
    rfl
  · rw [if_pos (by rfl), h3, if_neg (by decide), m_pSets (by omega) h1 h2]
    rfl
  · rw [if_pos (by rfl), h3, if_neg (by decide), m_pSets (by omega) h1 h2]
    rfl
  · rw [if_pos (by rfl), h3, if_neg (by decide), m_pSets (by omega) h1 h2]
    rfl
  · rw [if_pos (by rfl), h3, if_pos (by rfl), show (51 : Int32) = nI 51 from rfl, m_runs h1 (by omega), bv_some, m_pSets (r := r + 1) (by omega) (mR_1 _ _ _) (i := i) (by rw [mR_0 _ _ _ (by omega)]; exact h2), bd_some, mR_0 _ _ _ (by omega), mR_0 _ _ _ (by omega), h2]
    rfl
  · rw [if_neg (by decide), show (11 : Int32) = nI 11 from rfl, m_runs h1 (by omega), bv_some, m_pSets (r := r + 1) (by omega) (mR_1 _ _ _) (i := i) (by rw [mR_0 _ _ _ (by omega)]; exact h2)]
    rfl
theorem m_pTurns {μ : Mem} {c r : Nat} {i v : Int32} (hc : c < 7) (hr : r < 980) (h1 : gI μ 0 35 = nI r) (h2 : gI μ 0 37 = i) (h3 : gI μ 0 36 = nI c) (h4 : gI μ 0 38 = v) (x : Int32) : f_X12_plainTurns x μ = some (rS c i x - v, mL (2 :: bS c) μ r) := by
  unfold f_X12_plainTurns
  rw [show (2 : Int32) = nI 2 from rfl, m_runs h1 (by omega), bv_some, mSets hc (r := r + 1) (by omega) (mR_1 _ _ _) (i := i) (by rw [mR_0 _ _ _ (by omega)]; exact h2) (by rw [mR_0 _ _ _ (by omega)]; exact h3), bd_some, mL_0 (by omega), mR_0 _ _ _ (by omega), h4]
  rfl
theorem mTurns {μ : Mem} {c r : Nat} {i v : Int32} (hc : c < 7) (hr : r < 970) (h1 : gI μ 0 35 = nI r) (h2 : gI μ 0 37 = i) (h3 : gI μ 0 36 = nI c) (h4 : gI μ 0 38 = v) (x : Int32) : f_X12_turnsActs x μ = some (rT c i v x, mL (bT c) μ r) := by
  have e0 : ∀ τ, f_X12_isUnder (nI c) 3 τ = _ := fun τ => m_under hc (show 3 < 7 by omega) τ
  have e1 := m_pTurns hc (show r < 980 by omega) h1 h2 h3 h4 x
  have e2 : ∀ b, f_X12_plainTurns x (mR μ b r) = some (rS c i x - v, mL (2 :: bS c) (mR μ b r) (r + 1)) := fun b => m_pTurns hc (show r + 1 < 980 by omega) (mR_1 _ _ _) (by rw [mR_0 _ _ _ (by omega)]; exact h2) (by rw [mR_0 _ _ _ (by omega)]; exact h3) (by rw [mR_0 _ _ _ (by omega)]; exact h4) x
  unfold f_X12_turnsActs
  rw [h3]
  rcases (show c = 0 ∨ c = 1 ∨ c = 2 ∨ c = 3 ∨ c = 4 ∨ c = 5 ∨ c = 6 by omega) with rfl | rfl | rfl | rfl | rfl | rfl | rfl
  · rw [if_neg (by decide), e0, bd_some, if_pos (by rfl), e1, bd_some]
    rfl
  · rw [if_neg (by decide), e0, bd_some, if_pos (by rfl), e1, bd_some]
    rfl
  · rw [if_neg (by decide), e0, bd_some, if_pos (by rfl), e1, bd_some]
    rfl
  · rw [if_neg (by decide), e0, bd_some, if_neg (by decide), show (31 : Int32) = nI 31 from rfl, m_runs h1 (by omega), bv_some, e2, bd_some]
    rfl
  · rw [if_neg (by decide), e0, bd_some, if_neg (by decide), show (31 : Int32) = nI 31 from rfl, m_runs h1 (by omega), bv_some, e2, bd_some]
    rfl
  · rw [if_neg (by decide), e0, bd_some, if_neg (by decide), show (31 : Int32) = nI 31 from rfl, m_runs h1 (by omega), bv_some, e2, bd_some]
    rfl
  · rw [if_pos (by rfl), show (61 : Int32) = nI 61 from rfl, m_runs h1 (by omega), bv_some, e2, bd_some, mL_0 (by omega), mR_0 _ _ _ (by omega), h4]
    rfl
theorem m_pTells {μ : Mem} {c r : Nat} {i v : Int32} (hc : c < 7) (hr : r < 960) (h1 : gI μ 0 35 = nI r) (h2 : gI μ 0 37 = i) (h3 : gI μ 0 36 = nI c) (h4 : gI μ 0 38 = v) (x : Int32) : f_X12_plainTells x μ = some (rT c i v x * 2, mL (3 :: bT c) μ r) := by
  unfold f_X12_plainTells
  rw [show (3 : Int32) = nI 3 from rfl, m_runs h1 (by omega), bv_some, mTurns hc (r := r + 1) (by omega) (mR_1 _ _ _) (i := i) (v := v) (by rw [mR_0 _ _ _ (by omega)]; exact h2) (by rw [mR_0 _ _ _ (by omega)]; exact h3) (by rw [mR_0 _ _ _ (by omega)]; exact h4), bd_some]
  rfl
theorem mTells {μ : Mem} {c r : Nat} {i v : Int32} (hc : c < 7) (hr : r < 900) (h1 : gI μ 0 35 = nI r) (h2 : gI μ 0 37 = i) (h3 : gI μ 0 36 = nI c) (h4 : gI μ 0 38 = v) (x : Int32) : f_X12_tellsActs x μ = some (rL c i v x, mL (bL c) μ r) := by
  have e0 : ∀ τ, f_X12_isUnder (nI c) 4 τ = _ := fun τ => m_under hc (show 4 < 7 by omega) τ
  have e1 := m_pTells hc (show r < 960 by omega) h1 h2 h3 h4 x
  have e2 : ∀ b y, f_X12_plainTells y (mR μ b r) = some (rT c i v y * 2, mL (3 :: bT c) (mR μ b r) (r + 1)) := fun b y => m_pTells hc (show r + 1 < 960 by omega) (mR_1 _ _ _) (by rw [mR_0 _ _ _ (by omega)]; exact h2) (by rw [mR_0 _ _ _ (by omega)]; exact h3) (by rw [mR_0 _ _ _ (by omega)]; exact h4) y
  have hl := bT_len c
  unfold f_X12_tellsActs
  rw [h3]
  rcases (show c = 0 ∨ c = 1 ∨ c = 2 ∨ c = 3 ∨ c = 4 ∨ c = 5 ∨ c = 6 by omega) with rfl | rfl | rfl | rfl | rfl | rfl | rfl
  · rw [if_neg (by decide), e0, bd_some, if_pos (by rfl), e1, bd_some]
    rfl
  · rw [if_neg (by decide), e0, bd_some, if_pos (by rfl), e1, bd_some]
    rfl
  · rw [if_pos (by rfl), show (21 : Int32) = nI 21 from rfl, m_runs h1 (by omega), bv_some, e2, bd_some]
    rfl
  · rw [if_neg (by decide), e0, bd_some, if_pos (by rfl), e1, bd_some]
    rfl
  · rw [if_neg (by decide), e0, bd_some, if_neg (by decide), show (41 : Int32) = nI 41 from rfl, m_runs h1 (by omega), bv_some, e2, bd_some, mSets hc (r := r + 1 + (3 :: bT 4).length) (by simp only [List.length_cons]; omega) (mL_1 _ _ _ (mR_1 _ _ _)) (i := i) (by rw [mL_0 (by omega), mR_0 _ _ _ (by omega)]; exact h2) (by rw [mL_0 (by omega), mR_0 _ _ _ (by omega)]; exact h3), bd_some]
    rw [← mL_app]
    rfl
  · rw [if_neg (by decide), e0, bd_some, if_neg (by decide), show (41 : Int32) = nI 41 from rfl, m_runs h1 (by omega), bv_some, e2, bd_some, mSets hc (r := r + 1 + (3 :: bT 5).length) (by simp only [List.length_cons]; omega) (mL_1 _ _ _ (mR_1 _ _ _)) (i := i) (by rw [mL_0 (by omega), mR_0 _ _ _ (by omega)]; exact h2) (by rw [mL_0 (by omega), mR_0 _ _ _ (by omega)]; exact h3), bd_some]
    rw [← mL_app]
    rfl
  · rw [if_neg (by decide), e0, bd_some, if_pos (by rfl), e1, bd_some]
    rfl
theorem bS_len (c : Nat) : (bS c).length ≤ 10 := by
  unfold bS
  split <;> (try split) <;> simp
theorem bL_len (c : Nat) : (bL c).length ≤ 40 := by
  have h1 := bT_len c
  have h2 := bS_len c
  unfold bL
  split
  · simp only [List.length_cons]; omega
  · split
    · simp only [List.length_cons, List.length_append]; omega
    · simp only [List.length_cons]; omega
theorem op_act (n : Nat) (σ μ : Mem) (p1 p2 p3 : Int32) (hR : Rel (n + 1) σ μ) : ∃ (r : Int32) (σ1 μ1 : Mem), f_X11_act p1 p2 p3 σ = some (r, σ1) ∧ f_X12_act p1 p2 p3 μ = some (r, μ1) ∧ Rel n σ1 μ1 := by
  obtain ⟨hn, Am, M, hA, hH, hI, hp, hm, ha⟩ := hR
  obtain ⟨d1, D, d2, d3, d4⟩ := hA.2.2.2.2.2.2.1
  have d1 : gI σ 8 4 = nI D := d1.trans d3
  have d4 : ∀ i, i < D → gI σ 9 i = gI μ 1 (887 + i) ∧ gI σ 10 i = gI μ 1 (897 + i) ∧ gI σ 11 i = gI μ 1 (907 + i) ∧ le_ (gI μ 1 (887 + i)) 6 ∧ le_ (gI μ 1 (897 + i)) 7 ∧ ∃ z, z ≤ 10 ∧ gI μ 1 (907 + i) = nI z ∧ ∀ j, j < z → gI σ 12 (10 * i + j) = gI μ 1 (917 + 10 * i + j) ∧ le_ (gI μ 1 (917 + 10 * i + j)) 7 := d4
  have g8 : gI (sI σ 46 1 0) 8 4 = nI D := by simp (disch := omega) only [gI_ss, gI_sk, gI_sc]; exact d1
  have g1 : gI (sI μ 0 35 0) 1 1 = nI D := by simp (disch := omega) only [gI_ss, gI_sk, gI_sc]; exact d3
  -- what is left, by the bodies that ran
  have fin : ∀ (σ1 μ1 : Mem) (l : Nat), l ≤ 40 → (∀ c, c ≠ 46 → c ≠ 47 → gI σ1 c = gI σ c) → (∀ c, c ≠ 0 → c ≠ 15 → gI μ1 c = gI μ c) → (∀ j, j ≠ 35 → j ≠ 36 → j ≠ 37 → j ≠ 38 → gI μ1 0 j = gI μ 0 j) → gI σ1 46 1 = nI l → gI μ1 0 35 = nI l → (∀ i, i < l → i < 20 → gI σ1 47 i = gI μ1 15 i) → Rel n σ1 μ1 := by
    intro σ1 μ1 l hl c1 c2 c3 c4 c5 c6
    refine ⟨by omega, Am, M, ?_, fun k hk => cHours_c (hH k hk) (Nat.lt_of_lt_of_le hk hA.1) (fun c h1 h2 => c1 c (by omega) (by omega)), ?_, ?_, ?_, l, by omega, c4, c5, c6⟩
    · rw [c2 1 (by omega) (by omega)]
      exact sAll_c hA (fun c h1 h2 => c1 c (by omega) (by omega)) (fun c h1 h2 => c1 c (by omega) (by omega))
    · exact rIm_c hI (by omega) (by rw [c1 0 (by omega) (by omega)]) (c3 3 (by omega) (by omega) (by omega) (by omega)) (c2 2 (by omega) (by omega)) (fun c h1 h2 => c1 c (by omega) (by omega)) (fun c h1 h2 => c1 c (by omega) (by omega))
    · rw [c2 1 (by omega) (by omega)]
      exact rPl_up hp (by omega) (by rw [c1 41 (by omega) (by omega)]) (by rw [c1 41 (by omega) (by omega)]) (c1 42 (by omega) (by omega)) (c1 43 (by omega) (by omega)) (c1 45 (by omega) (by omega)) (fun _ _ => rfl)
    · exact rMs_up hm (by omega) (c3 25 (by omega) (by omega) (by omega) (by omega)) (c3 26 (by omega) (by omega) (by omega) (by omega)) (c2 5 (by omega) (by omega)) (c2 10 (by omega) (by omega)) (c2 11 (by omega) (by omega))
  have zero : Rel n (sI σ 46 1 0) (sI μ 0 35 0) := fin _ _ 0 (by omega) (fun c h1 h2 => by simp (disch := omega) only [gIr, gIrL]) (fun c h1 h2 => by simp (disch := omega) only [gIr, gIrL]) (fun j h1 _ _ _ => by simp (disch := omega) only [gI_ss, gI_sk, gI_sc]) (by simp (disch := omega) only [gI_ss, gI_sk, gI_sc]; rfl) (by simp (disch := omega) only [gI_ss, gI_sk, gI_sc]; rfl) (fun i hi => by omega)
  by_cases h1 : wi p1 0 (nI D - 1) = 0
  · exact ⟨0, _, _, by simp only [bd_some, bv_some, lt_eq, ↓reduceIte, f_X11_act, f_X0_clear, c_isRule, g8, h1], by simp only [bd_some, bv_some, lt_eq, ↓reduceIte, f_X12_act, m_isRule, g1, h1], zero⟩
  by_cases h2 : wi p2 0 2 = 0
  · exact ⟨0, _, _, by simp only [bd_some, bv_some, lt_eq, ↓reduceIte, f_X11_act, f_X0_clear, c_isRule, g8, h1, c_within, h2], by simp only [bd_some, bv_some, lt_eq, ↓reduceIte, f_X12_act, m_isRule, g1, h1, m_within, h2], zero⟩
  obtain ⟨i, hi1, rfl⟩ := wi_cnt h1 (by omega)
  obtain ⟨q, -, hq, rfl⟩ := wi_nat (lo := 0) (hi := 2) h2 (by omega) (by omega)
  obtain ⟨q1, q2, -, ⟨c, q4, q4'⟩, ⟨v, q5, q5'⟩, -⟩ := d4 i hi1
  have s9 : gI σ 9 i = nI c := q1.trans q4'
  have s10 : gI σ 10 i = nI v := q2.trans q5'
  obtain ⟨S, hS⟩ : ∃ S, S = sI (sI (sI (sI σ 46 1 0) 46 2 (nI i)) 46 3 (nI c)) 46 4 (nI v) := ⟨_, rfl⟩
  obtain ⟨T, hT⟩ : ∃ T, T = sI (sI (sI (sI μ 0 35 0) 0 36 (nI c)) 0 37 (nI i)) 0 38 (nI v) := ⟨_, rfl⟩
  have S1 : gI S 46 1 = nI 0 := by rw [hS]; simp (disch := omega) only [gI_ss, gI_sk, gI_sc]; rfl
  have S2 : gI S 46 2 = nI i := by rw [hS]; simp (disch := omega) only [gI_ss, gI_sk, gI_sc]
  have S3 : gI S 46 3 = nI c := by rw [hS]; simp (disch := omega) only [gI_ss, gI_sk, gI_sc]
  have S4 : gI S 46 4 = nI v := by rw [hS]; simp (disch := omega) only [gI_ss, gI_sk, gI_sc]
  have So : ∀ c, c ≠ 46 → gI S c = gI σ c := fun c hc => by rw [hS]; simp (disch := omega) only [gIr, gIrL]
  have T1 : gI T 0 35 = nI 0 := by rw [hT]; simp (disch := omega) only [gI_ss, gI_sk, gI_sc]; rfl
  have T2 : gI T 0 37 = nI i := by rw [hT]; simp (disch := omega) only [gI_ss, gI_sk, gI_sc]
  have T3 : gI T 0 36 = nI c := by rw [hT]; simp (disch := omega) only [gI_ss, gI_sk, gI_sc]
  have T4 : gI T 0 38 = nI v := by rw [hT]; simp (disch := omega) only [gI_ss, gI_sk, gI_sc]
  have To : ∀ c, c ≠ 0 → gI T c = gI μ c := fun c hc => by rw [hT]; simp (disch := omega) only [gIr, gIrL]
  have T0 : ∀ j, j ≠ 35 → j ≠ 36 → j ≠ 37 → j ≠ 38 → gI T 0 j = gI μ 0 j := fun j _ _ _ _ => by rw [hT]; simp (disch := omega) only [gI_ss, gI_sk, gI_sc]
  have eC : f_X11_act (nI i) (nI q) p3 σ = bd (f_X0_perform (nI q) (nI c) p3 (nI 0) S) fun r τ => some (r, τ) := by
    have e1 : gI (sI (sI σ 46 1 0) 46 2 (nI i)) 9 i = nI c := by simp (disch := omega) only [gI_ss, gI_sk, gI_sc]; exact s9
    have e2 : gI (sI (sI (sI σ 46 1 0) 46 2 (nI i)) 46 3 (nI c)) 10 i = nI v := by simp (disch := omega) only [gI_ss, gI_sk, gI_sc]; exact s10
    have ibi : ib (nI i) 10 = true := ib_nI (by omega) (by omega)
    have ti : (nI i).toNatClampNeg = i := nI_tn (by omega)
    simp only [bd_some, bv_some, lt_eq, ↓reduceIte, f_X11_act, f_X0_clear, c_isRule, g8, h1, c_within, h2, f_X0_begin, ibi, gd_true, ti, e1, e2]
    rw [← hS, S3]
    show bd (bd (f_X0_perform (nI q) (nI c) p3 0 S) fun r τ => some (r, τ)) _ = bd (f_X0_perform (nI q) (nI c) p3 0 S) _
    cases f_X0_perform (nI q) (nI c) p3 0 S <;> rfl
  have fin2 : ∀ bs : List Nat, bs.length ≤ 40 → Rel n (cL bs S 0) (mL bs T 0) := fun bs hb => by
    have w1 := cL_1 bs S 0 S1
    have w2 := mL_1 bs T 0 T1
    have w3 := tr_L bs S T 0 (fun i hi => by omega)
    rw [Nat.zero_add] at w1 w2 w3
    exact fin _ _ bs.length hb (fun c h1 h2 => by rw [cL_off h1 h2, So c h1]) (fun c h1 h2 => by rw [mL_off h1 h2, To c h1]) (fun j a1 a2 a3 a4 => by rw [mL_0 a1, T0 j a1 a2 a3 a4]) w1 w2 w3
  have ib1 : ib ((887 : Int32) + nI i) 1055 = true := by
    rw [show (887 : Int32) + nI i = nI (887 + i) from nI_add 887 i]
    exact ib_nI (by omega) (by omega)
  have ib2 : ib ((897 : Int32) + nI i) 1055 = true := by
    rw [show (897 : Int32) + nI i = nI (897 + i) from nI_add 897 i]
    exact ib_nI (by omega) (by omega)
  have t1 : ((887 : Int32) + nI i).toNatClampNeg = 887 + i := by
    rw [show (887 : Int32) + nI i = nI (887 + i) from nI_add 887 i]
    exact nI_tn (by omega)
  have t2 : ((897 : Int32) + nI i).toNatClampNeg = 897 + i := by
    rw [show (897 : Int32) + nI i = nI (897 + i) from nI_add 897 i]
    exact nI_tn (by omega)
  have m1 : gI (sI μ 0 35 0) 1 (887 + i) = nI c := by simp (disch := omega) only [gI_ss, gI_sk, gI_sc]; exact q4'
  have m2 : gI (sI (sI (sI μ 0 35 0) 0 36 (nI c)) 0 37 (nI i)) 1 (897 + i) = nI v := by simp (disch := omega) only [gI_ss, gI_sk, gI_sc]; exact q5'
  rcases (show q = 0 ∨ q = 1 ∨ q = 2 by omega) with rfl | rfl | rfl
  · refine ⟨rS c (nI i) p3, cL (bS c) S 0, mL (bS c) T 0, ?_, ?_, fin2 _ (by have := bS_len c; omega)⟩
    · rw [eC]
      unfold f_X0_perform
      rw [cSets 14 (by omega) (by omega) (by omega) S1 S2, bd_some]
    · simp only [bd_some, bv_some, lt_eq, ↓reduceIte, f_X12_act, m_isRule, g1, h1, m_within, h2, ib1, ib2, gd_true, t1, t2, m1, m2]
      rw [← hT, if_pos (by rfl), mSets (by omega) (by omega) T1 T2 T3, bd_some]
  · refine ⟨rT c (nI i) (nI v) p3, cL (bT c) S 0, mL (bT c) T 0, ?_, ?_, fin2 _ (by have := bT_len c; omega)⟩
    · rw [eC]
      unfold f_X0_perform
      rw [cTurns 12 (by omega) (by omega) (by omega) S1 S2 S3 S4, bd_some]
    · simp only [bd_some, bv_some, lt_eq, ↓reduceIte, f_X12_act, m_isRule, g1, h1, m_within, h2, ib1, ib2, gd_true, t1, t2, m1, m2]
      rw [← hT, if_neg (by decide), if_pos (by rfl), mTurns (by omega) (by omega) T1 T2 T3 T4, bd_some]
  · refine ⟨rL c (nI i) (nI v) p3, cL (bL c) S 0, mL (bL c) T 0, ?_, ?_, fin2 _ (bL_len c)⟩
    · rw [eC]
      unfold f_X0_perform
      rw [cTells 10 (by omega) (by omega) (by omega) S1 S2 S3 S4, bd_some]
    · simp only [bd_some, bv_some, lt_eq, ↓reduceIte, f_X12_act, m_isRule, g1, h1, m_within, h2, ib1, ib2, gd_true, t1, t2, m1, m2]
      rw [← hT, if_neg (by decide), if_neg (by decide), mTells (by omega) (by omega) T1 T2 T3 T4, bd_some]
