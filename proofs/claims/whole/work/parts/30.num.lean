/-! NUMBERS AND MEMORY -/
theorem li (n : Nat) : (@OfNat.ofNat Int32 n _) = nI (@OfNat.ofNat Nat n _) := rfl
theorem bd_some {ρ α : Type} (r : ρ) (τ : Mem) (k : ρ → Mem → Option α) : bd (some (r, τ)) k = k r τ := rfl
theorem bv_some {α : Type} (τ : Mem) (k : Mem → Option α) : bv (some τ) k = k τ := rfl
theorem lt_eq {α β : Type} (a : α) (k : α → β) : lt a k = k a := rfl
theorem gd_true {α : Type} (k : Option α) : gd true k = k := rfl
theorem gI_s (σ : Mem) (c k : Nat) (v : Int32) (c' k' : Nat) : gI (sI σ c k v) c' k' = if c' = c then (if k' = k then v else gI σ c' k') else gI σ c' k' := by
  unfold gI sI
  by_cases h : c' = c
  · subst h
    simp
  · simp [h]
theorem gI_ss (σ : Mem) (c k : Nat) (v : Int32) : gI (sI σ c k v) c k = v := by rw [gI_s, if_pos rfl, if_pos rfl]
theorem gI_sc (σ : Mem) {c c' : Nat} (k k' : Nat) (v : Int32) (h : c' ≠ c) : gI (sI σ c k v) c' k' = gI σ c' k' := by rw [gI_s, if_neg h]
theorem gI_sk (σ : Mem) (c : Nat) {k k' : Nat} (v : Int32) (h : k' ≠ k) : gI (sI σ c k v) c k' = gI σ c k' := by rw [gI_s, if_pos rfl, if_neg h]
theorem gI_sL (σ : Mem) (c k : Nat) (v : Int64) (c' k' : Nat) : gI (sL σ c k v) c' k' = gI σ c' k' := rfl
theorem gL_sI (σ : Mem) (c k : Nat) (v : Int32) (c' k' : Nat) : gL (sI σ c k v) c' k' = gL σ c' k' := rfl
theorem gL_s (σ : Mem) (c k : Nat) (v : Int64) (c' k' : Nat) : gL (sL σ c k v) c' k' = if c' = c then (if k' = k then v else gL σ c' k') else gL σ c' k' := by
  unfold gL sL
  by_cases h : c' = c
  · subst h
    simp
  · simp [h]
theorem gI_cp (σ : Mem) (a b n c' k' : Nat) : gI (cpI σ a b n) c' k' = if c' = b then (if k' < n then gI σ a k' else gI σ b k') else gI σ c' k' := by
  unfold gI cpI
  by_cases h : c' = b
  · subst h
    simp
  · simp [h]
theorem ib_nI {n N : Nat} (h : n < N) (h2 : n < 2 ^ 31) : ib (nI n) N = true := by
  unfold ib
  exact decide_eq_true (nI_in_of h h2)
/-- in a range, as a number -/
def wi (p lo hi : Int32) : Int32 := if p < lo then 0 else if hi < p then 0 else 1
theorem wi_iz (p lo hi : Int32) : iz (wi p lo hi) = true := by
  unfold wi
  split
  · decide
  · split <;> decide
theorem c_within (p lo hi : Int32) (σ : Mem) : f_X11_within p lo hi σ = some (wi p lo hi, σ) := by
  unfold f_X11_within wi
  split
  · rfl
  · split <;> rfl
theorem m_within (p lo hi : Int32) (σ : Mem) : f_X12_in p lo hi σ = some (wi p lo hi, σ) := by
  unfold f_X12_in wi
  split
  · rfl
  · split <;> rfl
theorem gd_wi {α : Type} (p lo hi : Int32) (k : Option α) : gd (iz (wi p lo hi)) k = k := by rw [wi_iz]; rfl
theorem c_isWind (p : Int32) (σ : Mem) : f_X11_isWind p σ = some (wi p 0 5, σ) := by
  unfold f_X11_isWind
  rw [c_within, bd_some, gd_wi]
theorem c_isSetting (p : Int32) (σ : Mem) : f_X11_isSetting p σ = some (wi p 0 7, σ) := by
  unfold f_X11_isSetting
  rw [c_within, bd_some, gd_wi]
theorem c_isChance (p : Int32) (σ : Mem) : f_X11_isChance p σ = some (wi p 0 1000, σ) := by
  unfold f_X11_isChance
  rw [c_within, bd_some, gd_wi]
theorem c_isMill (p : Int32) (σ : Mem) : f_X11_isMill p σ = some (wi p 0 (gI σ 2 0 - 1), σ) := by
  unfold f_X11_isMill
  rw [c_within, bd_some, gd_wi]
theorem c_isRule (p : Int32) (σ : Mem) : f_X11_isRule p σ = some (wi p 0 (gI σ 8 4 - 1), σ) := by
  unfold f_X11_isRule
  rw [c_within, bd_some, gd_wi]
theorem c_isLed (σ : Mem) : f_X11_isLed σ = some (wi (gI σ 7 0) 0 (gI σ 2 0 - 1), σ) := by
  unfold f_X11_isLed
  rw [c_isMill, bd_some, gd_wi]
theorem m_isWind (p : Int32) (σ : Mem) : f_X12_isWind p σ = some (wi p 0 5, σ) := by
  unfold f_X12_isWind
  rw [m_within, bd_some, gd_wi]
theorem m_isMill (p : Int32) (σ : Mem) : f_X12_isMill p σ = some (wi p 0 (gI σ 1 0 - 1), σ) := by
  unfold f_X12_isMill
  rw [m_within, bd_some, gd_wi]
theorem m_isRule (p : Int32) (σ : Mem) : f_X12_isRule p σ = some (wi p 0 (gI σ 1 1 - 1), σ) := by
  unfold f_X12_isRule
  rw [m_within, bd_some, gd_wi]
/-- a number in a range is a natural number in it -/
theorem wi_nat {p : Int32} {lo hi : Nat} (h : ¬ wi p (nI lo) (nI hi) = 0) (hl : lo < 2 ^ 31) (hh : hi < 2 ^ 31) : ∃ j : Nat, lo ≤ j ∧ j ≤ hi ∧ p = nI j := by
  unfold wi at h
  split at h
  · exact absurd rfl h
  · rename_i h1
    split at h
    · exact absurd rfl h
    · rename_i h2
      have h3 : nI lo ≤ p := Int32.not_lt.mp h1
      have h4 : ¬ p < 0 := by
        intro q
        have := nI_pos' hl
        exact absurd (Int32.lt_of_le_of_lt (Int32.le_trans this h3) q) Int32.lt_irrefl
      obtain ⟨j, hj, rfl⟩ := nI_of h4
      exact ⟨j, (nI_leI hl hj).mp h3, (nI_leI hj hh).mp (Int32.not_lt.mp h2), rfl⟩
theorem wi_yes {j lo hi : Nat} (h1 : lo ≤ j) (h2 : j ≤ hi) (hh : hi < 2 ^ 31) : wi (nI j) (nI lo) (nI hi) = 1 := by
  unfold wi
  rw [if_neg (nI_nlt h1 (by omega)), if_neg (nI_nlt h2 hh)]
/-- a count's numbers: below it -/
theorem wi_cnt {p : Int32} {M : Nat} (h : ¬ wi p 0 (nI M - 1) = 0) (hM : M < 2 ^ 31) : ∃ j : Nat, j < M ∧ p = nI j := by
  cases M with
  | zero =>
    exfalso
    apply h
    unfold wi
    split
    · rfl
    · rename_i h1
      rw [if_pos]
      have h3 : (0 : Int32) ≤ p := Int32.not_lt.mp h1
      exact Int32.lt_of_lt_of_le (by decide) h3
  | succ M =>
    rw [nI_pred] at h
    obtain ⟨j, -, hj, rfl⟩ := wi_nat (lo := 0) h (by omega) (by omega)
    exact ⟨j, by omega, rfl⟩
theorem wi_cnt_yes {j M : Nat} (h : j < M) (hM : M < 2 ^ 31) : wi (nI j) 0 (nI M - 1) = 1 := by
  cases M with
  | zero => omega
  | succ M =>
    rw [nI_pred]
    exact wi_yes (lo := 0) (Nat.zero_le _) (by omega) (by omega)
theorem wi_m1 (M : Nat) : wi (-1) 0 (nI M - 1) = 0 := by
  unfold wi
  rw [if_pos (by decide)]
theorem nI_tn {n : Nat} (h : n < 2 ^ 31) : (nI n).toNatClampNeg = n := nI_clamp h
theorem nI_inj {a b : Nat} (ha : a < 2 ^ 31) (hb : b < 2 ^ 31) (h : nI a = nI b) : a = b := (nI_eq ha hb).mp h
theorem nI_m1 {n : Nat} (h : n < 2 ^ 31) : ¬ nI n = -1 := by
  intro q
  have h1 := nI_toInt h
  rw [q] at h1
  have h2 : (-1 : Int32).toInt = -1 := by decide +kernel
  omega
theorem nIlt {a b : Nat} (ha : a < 2 ^ 31) (hb : b < 2 ^ 31) : (nI a < nI b) = (a < b) := propext (nI_ltI ha hb)
theorem nIle {a b : Nat} (ha : a < 2 ^ 31) (hb : b < 2 ^ 31) : (nI a ≤ nI b) = (a ≤ b) := propext (nI_leI ha hb)
theorem nIeq {a b : Nat} (ha : a < 2 ^ 31) (hb : b < 2 ^ 31) : (nI a = nI b) = (a = b) := propext (nI_eq ha hb)
theorem nIn1 {n : Nat} (h : n < 2 ^ 31) : (nI n = -1) = False := eq_false (nI_m1 h)
theorem nIsub {a b : Nat} (h : b ≤ a) : nI a - nI b = nI (a - b) := pk_sub h
theorem nIdiv {a b : Nat} (ha : a < 2 ^ 31) (h0 : 0 < b) (hb : b < 2 ^ 31) : nI a / nI b = nI (a / b) := pk_div ha h0 hb
theorem nIrem {a b : Nat} (ha : a < 2 ^ 31) (h0 : 0 < b) (hb : b < 2 ^ 31) : irm (nI a) (nI b) = nI (a % b) := pk_rem ha h0 hb
theorem pos_ {c : Prop} [Decidable c] {α : Type} {a b : α} (hc : c) : (if c then a else b) = a := if_pos hc
theorem neg_ {c : Prop} [Decidable c] {α : Type} {a b : α} (hc : ¬ c) : (if c then a else b) = b := if_neg hc
theorem gIr (σ : Mem) {c c' : Nat} (k : Nat) (v : Int32) (h : c' ≠ c) : gI (sI σ c k v) c' = gI σ c' := by
  funext j
  exact gI_sc σ k j v h
theorem gIrL (σ : Mem) (c c' k : Nat) (v : Int64) : gI (sL σ c k v) c' = gI σ c' := rfl
theorem nIn1b {n : Nat} (h : n < 2 ^ 31) : (nI n = -nI 1) = False := eq_false (nI_m1 h)
