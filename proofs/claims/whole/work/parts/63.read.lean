/-! READING: what both sides see -/
def at_ (t : Nat) (B : Nat → Nat) (p : Nat) : Int32 := if p < t then nI (B p) else -1
theorem at_eq {t p c : Nat} {B : Nat → Nat} (hB : ∀ j, j < t → B j ≤ 255) (hc : c < 256) : (at_ t B p = nI c) = (p < t ∧ B p = c) := by
  apply propext
  unfold at_
  by_cases q : p < t
  · have := hB p q
    rw [if_pos q]
    exact ⟨fun z => ⟨q, nI_inj (by omega) (by omega) z⟩, fun z => by rw [z.2]⟩
  · rw [if_neg q]
    exact ⟨fun z => absurd z.symm (nI_m1 (by omega)), fun z => absurd z.1 q⟩
def isD (t : Nat) (B : Nat → Nat) (p : Nat) : Bool := decide (p < t) && (decide (48 ≤ B p) && decide (B p ≤ 57))
theorem isD_t {t p : Nat} {B : Nat → Nat} (h : isD t B p = true) : p < t ∧ 48 ≤ B p ∧ B p ≤ 57 := by
  unfold isD at h
  simp only [Bool.and_eq_true, decide_eq_true_eq] at h
  exact h
theorem isD_f {t p : Nat} {B : Nat → Nat} (h : isD t B p = false) : ¬ (p < t ∧ 48 ≤ B p ∧ B p ≤ 57) := by
  intro z
  have : isD t B p = true := by
    unfold isD
    simp only [Bool.and_eq_true, decide_eq_true_eq]
    exact z
  rw [h] at this
  cases this
def nuV (t : Nat) (B : Nat → Nat) (p : Nat) : Nat := if B p = 48 then 0 else if isD t B (p + 1) = true then (B p - 48) * 10 + (B (p + 1) - 48) else B p - 48
def nuE (t : Nat) (B : Nat → Nat) (p : Nat) : Nat := if B p = 48 then p + 1 else if isD t B (p + 1) = true then p + 2 else p + 1
theorem nuV_le {t p : Nat} {B : Nat → Nat} (h : isD t B p = true) : nuV t B p ≤ 99 := by
  have h1 := isD_t h
  unfold nuV
  split
  · omega
  · split
    · rename_i h2
      have := isD_t h2
      omega
    · omega
theorem nuE_at {t p : Nat} {B : Nat → Nat} (h : isD t B p = true) : p < nuE t B p ∧ nuE t B p ≤ t := by
  have h1 := isD_t h
  unfold nuE
  split
  · omega
  · split
    · rename_i h2
      have := isD_t h2
      omega
    · omega
/-! the class -/
def CB (t : Nat) (B : Nat → Nat) (σ : Mem) : Prop := gI σ 3 1 = nI t ∧ (∀ j, j < t → gI σ 4 j &&& 255 = nI (B j)) ∧ gI σ 40 0 = nI 3 ∧ t ≤ 120 ∧ ∀ j, j < t → B j ≤ 255
def o40 (σ σ' : Mem) : Prop := (∀ r, r ≠ 40 → gI σ' r = gI σ r) ∧ ∀ j, j ≠ 2 → gI σ' 40 j = gI σ 40 j
theorem o40_refl (σ : Mem) : o40 σ σ := ⟨fun _ _ => rfl, fun _ _ => rfl⟩
theorem o40_trans {σ τ υ : Mem} (h1 : o40 σ τ) (h2 : o40 τ υ) : o40 σ υ := ⟨fun r hr => (h2.1 r hr).trans (h1.1 r hr), fun j hj => (h2.2 j hj).trans (h1.2 j hj)⟩
theorem o40_s (σ : Mem) (v : Int32) : o40 σ (sI σ 40 2 v) := ⟨fun r hr => gIr _ _ _ hr, fun j hj => gI_sk _ _ _ hj⟩
theorem CB_o {t : Nat} {B : Nat → Nat} {σ τ : Mem} (h : CB t B σ) (ho : o40 σ τ) : CB t B τ := by
  obtain ⟨h1, h2, h3, h4, h5⟩ := h
  exact ⟨by rw [ho.1 3 (by omega)]; exact h1, fun j hj => by rw [ho.1 4 (by omega)]; exact h2 j hj, by rw [ho.2 0 (by omega)]; exact h3, h4, h5⟩
section READ
variable {t : Nat} {B : Nat → Nat}
theorem c_at {σ : Mem} (h : CB t B σ) {p : Nat} (hp : p ≤ 1000) : f_X9_at (nI p) σ = some (at_ t B p, σ) := by
  obtain ⟨h1, h2, h3, h4, h5⟩ := h
  unfold f_X9_at at_
  rw [if_neg (nI_pos (by omega)), h1]
  by_cases q : p < t
  · rw [if_neg (nI_ge q (by omega)), if_pos q, ib_nI (by omega) (by omega), gd_true, nI_tn (by omega), h2 p q]
  · rw [if_pos (nI_le (by omega) (by omega)), if_neg q]
theorem c_pass {σ : Mem} (h : CB t B σ) {p c : Nat} (hp : gI σ 40 2 = nI p) (hp2 : p ≤ 1000) (hc : c < 256) : f_X6_pass (nI c) σ = if p < t ∧ B p = c then some (1, sI σ 40 2 (nI (p + 1))) else some (0, σ) := by
  have h5 := h.2.2.2.2
  unfold f_X6_pass f_X6_pass_20
  rw [decide_eq_true h.2.2.1, gd_true, hp, c_at h hp2, bd_some]
  have e := at_eq (p := p) h5 hc
  by_cases q : p < t ∧ B p = c
  · rw [if_pos (show at_ t B p = nI c from by rw [e]; exact q), if_pos q, if_neg (by decide), hp, nI_1, lt_eq]
    rfl
  · rw [if_neg (show ¬ at_ t B p = nI c from by rw [e]; exact q), if_neg q, if_pos (by rfl)]
    rfl
theorem c_digit {σ : Mem} (h : CB t B σ) {p : Nat} (hp : gI σ 40 2 = nI p) (hp2 : p ≤ 1000) : f_X6_digit σ = some (if isD t B p = true then nI (B p - 48) else -1, σ) := by
  have h5 := h.2.2.2.2
  unfold f_X6_digit
  rw [decide_eq_true h.2.2.1, gd_true, hp, c_at h hp2, bd_some]
  unfold at_
  by_cases q : p < t
  · have hb := h5 p q
    rw [if_pos q]
    by_cases q1 : B p < 48
    · rw [if_pos (show nI (B p) < (48 : Int32) from nI_lt (b := 48) q1 (by omega)), if_neg (fun z => by have := isD_t z; omega)]
    · rw [if_neg (show ¬ nI (B p) < (48 : Int32) from nI_nlt (b := 48) (by omega) (by omega))]
      by_cases q2 : 57 < B p
      · rw [if_pos (show (57 : Int32) < nI (B p) from nI_lt (a := 57) q2 (by omega)), if_neg (fun z => by have := isD_t z; omega)]
      · have hd : isD t B p = true := by
          unfold isD
          simp only [Bool.and_eq_true, decide_eq_true_eq]
          omega
        rw [if_neg (show ¬ (57 : Int32) < nI (B p) from nI_nlt (a := 57) (by omega) (by omega)), if_pos hd, show (48 : Int32) = nI 48 from rfl, nIsub (by omega)]
  · rw [if_neg q, if_pos (by decide), if_neg (fun z => by have := isD_t z; omega)]
theorem c_number {σ : Mem} (h : CB t B σ) {p : Nat} (hp : gI σ 40 2 = nI p) (hp2 : p ≤ 900) : (isD t B p = true → ∃ σ', f_X6_readNumber σ = some (nI (nuV t B p), σ') ∧ gI σ' 40 2 = nI (nuE t B p) ∧ o40 σ σ') ∧ (isD t B p = false → f_X6_readNumber σ = some (-1, σ)) := by
  have e0 := c_digit h hp (by omega)
  refine ⟨fun hd => ?_, fun hd => ?_⟩
  · have hb := isD_t hd
    rw [if_pos hd] at e0
    have h1 := CB_o h (o40_s σ (nI (p + 1)))
    have e1 := c_digit (p := p + 1) h1 (gI_ss _ _ _ _) (by omega)
    unfold f_X6_readNumber nuV nuE
    rw [e0, bd_some, if_pos (nI_pos' (by omega)), hp, nI_1, lt_eq]
    by_cases q : B p = 48
    · rw [if_pos (show nI (B p - 48) = 0 from by rw [show B p - 48 = 0 by omega]; rfl), if_pos q, if_pos q]
      unfold f_X6_readNumber_33
      rw [if_neg (by decide), show B p - 48 = 0 by omega]
      exact ⟨_, rfl, gI_ss _ _ _ _, o40_s _ _⟩
    · rw [if_neg (show ¬ nI (B p - 48) = 0 from nI_ne0 (by omega) (by omega)), e1, bd_some, if_neg q, if_neg q]
      unfold f_X6_readNumber_33
      by_cases q2 : isD t B (p + 1) = true
      · have hb2 := isD_t q2
        rw [if_pos q2, if_pos q2, if_pos q2, if_pos (nI_pos' (by omega)), gI_ss, nI_1, lt_eq, show (10 : Int32) = nI 10 from rfl, pk_mul, nI_add]
        exact ⟨_, rfl, gI_ss _ _ _ _, o40_trans (o40_s _ _) (o40_s _ _)⟩
      · rw [if_neg q2, if_neg q2, if_neg q2, if_neg (by decide)]
        exact ⟨_, rfl, gI_ss _ _ _ _, o40_s _ _⟩
  · rw [if_neg (by rw [hd]; decide)] at e0
    unfold f_X6_readNumber
    rw [e0, bd_some, if_neg (by decide)]
/-! the model -/
def MB (t : Nat) (B : Nat → Nat) (μ : Mem) : Prop := gI μ 0 6 = nI t ∧ (∀ j, j < t → gI μ 1 (11 + j) = nI (B j)) ∧ t ≤ 120 ∧ ∀ j, j < t → B j ≤ 255
def o0 (μ μ' : Mem) : Prop := (∀ r, r ≠ 0 → gI μ' r = gI μ r) ∧ ∀ j, j ≠ 5 → j ≠ 7 → gI μ' 0 j = gI μ 0 j
theorem o0_refl (μ : Mem) : o0 μ μ := ⟨fun _ _ => rfl, fun _ _ _ => rfl⟩
theorem o0_trans {μ τ υ : Mem} (h1 : o0 μ τ) (h2 : o0 τ υ) : o0 μ υ := ⟨fun r hr => (h2.1 r hr).trans (h1.1 r hr), fun j a b => (h2.2 j a b).trans (h1.2 j a b)⟩
theorem o0_5 (μ : Mem) (v : Int32) : o0 μ (sI μ 0 5 v) := ⟨fun r hr => gIr _ _ _ hr, fun j a b => gI_sk _ _ _ a⟩
theorem o0_7 (μ : Mem) (v : Int32) : o0 μ (sI μ 0 7 v) := ⟨fun r hr => gIr _ _ _ hr, fun j a b => gI_sk _ _ _ b⟩
theorem MB_o {μ τ : Mem} (h : MB t B μ) (ho : o0 μ τ) : MB t B τ := by
  obtain ⟨h1, h2, h4, h5⟩ := h
  exact ⟨by rw [ho.2 6 (by omega) (by omega)]; exact h1, fun j hj => by rw [ho.1 1 (by omega)]; exact h2 j hj, h4, h5⟩
theorem m_here {μ : Mem} (h : MB t B μ) {p : Nat} (hp : gI μ 0 5 = nI p) (hp2 : p ≤ 1000) : f_X12_here μ = some (at_ t B p, μ) := by
  obtain ⟨h1, h2, h4, h5⟩ := h
  unfold f_X12_here at_
  rw [h1, hp]
  by_cases q : p < t
  · rw [if_neg (nI_ge q (by omega)), if_pos q, show (11 : Int32) + nI p = nI (11 + p) from nI_add 11 p, ib_nI (by omega) (by omega), gd_true, nI_tn (by omega), h2 p q]
  · rw [if_pos (nI_le (by omega) (by omega)), if_neg q]
theorem sI_self (σ : Mem) (c k : Nat) : sI σ c k (gI σ c k) = σ := by
  have : (sI σ c k (gI σ c k)).1 = σ.1 := by
    funext c' k'
    exact (gI_s σ c k (gI σ c k) c' k').trans (by
      by_cases h : c' = c
      · subst h
        rw [if_pos rfl]
        by_cases h2 : k' = k
        · subst h2
          rw [if_pos rfl]
          rfl
        · rw [if_neg h2]
          rfl
      · rw [if_neg h]
        rfl)
  exact Prod.ext this rfl
theorem m_must {μ : Mem} (h : MB t B μ) {p c : Nat} (hp : gI μ 0 5 = nI p) (hp2 : p ≤ 1000) (hc : c < 256) (h7 : gI μ 0 7 = 0) : ∃ μ', f_X12_must (nI c) μ = some μ' ∧ o0 μ μ' ∧ ((p < t ∧ B p = c ∧ gI μ' 0 7 = 0 ∧ gI μ' 0 5 = nI (p + 1)) ∨ (¬ (p < t ∧ B p = c) ∧ gI μ' 0 7 = 1 ∧ gI μ' 0 5 = nI p)) := by
  have h5 := h.2.2.2
  unfold f_X12_must f_X12_must_16 f_X12_must_21
  rw [if_pos h7, m_here h hp hp2, bd_some]
  simp only [at_eq h5 hc]
  by_cases q : p < t ∧ B p = c
  · refine ⟨sI (sI μ 0 7 0) 0 5 (nI (p + 1)), ?_, o0_trans (o0_7 _ _) (o0_5 _ _), Or.inl ⟨q.1, q.2, ?_, gI_ss _ _ _ _⟩⟩
    · have e : gI (sI μ 0 7 0) 0 5 = nI p := by simp (disch := omega) only [gI_ss, gI_sk, gI_sc]; exact hp
      rw [if_pos q, show iz (0 : Int32) = true from rfl, gd_true, lt_eq, gI_ss, if_pos (by rfl), e, nI_1, lt_eq]
    · rw [gI_sk _ _ _ (by omega), gI_ss]
  · refine ⟨sI (sI μ 0 7 1) 0 5 (nI p), ?_, o0_trans (o0_7 _ _) (o0_5 _ _), Or.inr ⟨q, ?_, gI_ss _ _ _ _⟩⟩
    · have e : gI (sI μ 0 7 1) 0 5 = nI p := by simp (disch := omega) only [gI_ss, gI_sk, gI_sc]; exact hp
      rw [if_neg q, show iz (1 : Int32) = true from rfl, gd_true, lt_eq, gI_ss, if_neg (by decide), e, Int32.add_zero, lt_eq]
    · rw [gI_sk _ _ _ (by omega), gI_ss]
theorem m_dig {μ : Mem} (h : MB t B μ) {p : Nat} (hp2 : p ≤ 1000) : f_X12_in (at_ t B p) (48 : Int32) (57 : Int32) μ = some (bI (isD t B p), μ) := by
  have h5 := h.2.2.2
  unfold f_X12_in at_
  by_cases q : p < t
  · have hb := h5 p q
    rw [if_pos q]
    by_cases q1 : B p < 48
    · have hd : isD t B p = false := Bool.eq_false_iff.mpr (fun z => by have := isD_t z; omega)
      rw [if_pos (show nI (B p) < (48 : Int32) from nI_lt (b := 48) q1 (by omega)), hd]
      rfl
    · rw [if_neg (show ¬ nI (B p) < (48 : Int32) from nI_nlt (b := 48) (by omega) (by omega))]
      by_cases q2 : 57 < B p
      · have hd : isD t B p = false := Bool.eq_false_iff.mpr (fun z => by have := isD_t z; omega)
        rw [if_pos (show (57 : Int32) < nI (B p) from nI_lt (a := 57) q2 (by omega)), hd]
        rfl
      · have hd : isD t B p = true := by
          unfold isD
          simp only [Bool.and_eq_true, decide_eq_true_eq]
          omega
        rw [if_neg (show ¬ (57 : Int32) < nI (B p) from nI_nlt (a := 57) (by omega) (by omega)), hd]
        rfl
  · have hd : isD t B p = false := Bool.eq_false_iff.mpr (fun z => by have := isD_t z; omega)
    rw [if_neg q, if_pos (by decide), hd]
    rfl
theorem m_figures {μ : Mem} (h : MB t B μ) {p : Nat} (hp : gI μ 0 5 = nI p) (hp2 : p ≤ 900) (h7 : gI μ 0 7 = 0) : (isD t B p = true → ∃ μ', f_X12_figures μ = some (nI (nuV t B p), μ') ∧ gI μ' 0 7 = 0 ∧ gI μ' 0 5 = nI (nuE t B p) ∧ o0 μ μ') ∧ (isD t B p = false → ∃ μ', f_X12_figures μ = some (0, μ') ∧ gI μ' 0 7 = 1 ∧ gI μ' 0 5 = nI p ∧ o0 μ μ') := by
  have e0 := m_here h hp (by omega)
  have e1 := m_dig h (p := p) (by omega)
  refine ⟨fun hd => ?_, fun hd => ?_⟩
  · have hb := isD_t hd
    have s1 : f_X12_figures μ = fx3 f_X12_figures_34 (5997 + 3) 0 0 (sI μ 0 7 0) := by
      unfold f_X12_figures f_X12_figures_27
      rw [if_pos h7, e0, bd_some, e1, bd_some, hd, if_neg (by decide), show iz (0 : Int32) = true from rfl, gd_true, lt_eq]
      rfl
    obtain ⟨ν, hν⟩ : ∃ ν, ν = sI μ 0 7 0 := ⟨_, rfl⟩
    have oν : o0 μ ν := by rw [hν]; exact o0_7 _ _
    have pν : gI ν 0 5 = nI p := by rw [hν]; simp (disch := omega) only [gI_ss, gI_sk, gI_sc]; exact hp
    have wν : gI ν 0 7 = 0 := by rw [hν]; simp (disch := omega) only [gI_ss, gI_sk, gI_sc]
    have bν := MB_o h oν
    rw [s1, ← hν]
    have st : fx3 f_X12_figures_34 (5997 + 3) 0 0 ν = fx3 f_X12_figures_34 (5997 + 2) (nI (B p - 48)) (nI 1) (sI ν 0 5 (nI (p + 1))) := by
      show f_X12_figures_34 (fx3 f_X12_figures_34 (5997 + 2)) _ _ _ = _
      generalize fx3 f_X12_figures_34 (5997 + 2) = kk
      unfold f_X12_figures_34 f_X12_figures_68
      rw [if_neg (by decide), if_pos wν, m_here bν pν (by omega), bd_some, m_dig bν (by omega), bd_some, hd, if_neg (by decide), if_pos rfl, m_here bν pν (by omega), bd_some]
      have ea : at_ t B p = nI (B p) := if_pos hb.1
      rw [ea, pν, nI_1, lt_eq, lt_eq, lt_eq, show ((10 : Int32) * 0 + nI (B p)) - 48 = nI (B p - 48) from by
        rw [show (10 : Int32) * 0 = nI 0 from rfl, nI_add, show (48 : Int32) = nI 48 from rfl, Nat.zero_add, nIsub (by omega)]]
      rfl
    rw [st]
    obtain ⟨ξ, hξ⟩ : ∃ ξ, ξ = sI ν 0 5 (nI (p + 1)) := ⟨_, rfl⟩
    have oξ : o0 ν ξ := by rw [hξ]; exact o0_5 _ _
    have pξ : gI ξ 0 5 = nI (p + 1) := by rw [hξ]; simp (disch := omega) only [gI_ss, gI_sk, gI_sc]
    have wξ : gI ξ 0 7 = 0 := by rw [hξ]; simp (disch := omega) only [gI_ss, gI_sk, gI_sc]; exact wν
    have bξ := MB_o bν oξ
    rw [← hξ]
    show ∃ μ', f_X12_figures_34 (fx3 f_X12_figures_34 (5997 + 1)) _ _ _ = _ ∧ _
    have fin : ∀ (x : Int32) (ζ : Mem), fx3 f_X12_figures_34 (5997 + 1) x (nI 2) ζ = some (x, ζ) := fun x ζ => by
      show f_X12_figures_34 (fx3 f_X12_figures_34 5997) _ _ _ = _
      generalize fx3 f_X12_figures_34 5997 = kk
      unfold f_X12_figures_34
      exact if_pos (by decide)
    generalize fx3 f_X12_figures_34 (5997 + 1) = kk at fin
    unfold f_X12_figures_34 f_X12_figures_68 nuV nuE
    rw [if_neg (by decide), if_pos wξ, m_here bξ pξ (by omega), bd_some, m_dig bξ (by omega), bd_some]
    by_cases q2 : isD t B (p + 1) = true
    · have hb2 := isD_t q2
      rw [q2, if_neg (by decide), if_neg (by decide)]
      by_cases q : B p = 48
      · rw [if_pos (show nI (B p - 48) ≤ 0 from by rw [show B p - 48 = 0 by omega]; decide), if_pos q, if_pos q, show B p - 48 = 0 by omega]
        exact ⟨ξ, rfl, wξ, pξ, o0_trans oν oξ⟩
      · have ea : at_ t B (p + 1) = nI (B (p + 1)) := if_pos hb2.1
        rw [if_neg (show ¬ nI (B p - 48) ≤ 0 from nI_ge (a := 0) (by omega) (by omega)), if_neg q, if_neg q, if_pos rfl, if_pos rfl, m_here bξ pξ (by omega), bd_some, ea, pξ, nI_1, lt_eq, lt_eq, lt_eq]
        have ev : ((10 : Int32) * nI (B p - 48) + nI (B (p + 1))) - 48 = nI ((B p - 48) * 10 + (B (p + 1) - 48)) := by
          rw [show (10 : Int32) = nI 10 from rfl, pk_mul, nI_add, show (48 : Int32) = nI 48 from rfl, nIsub (by omega)]
          congr 1
          omega
        rw [ev, show nI 1 + 1 = nI 2 from rfl, fin]
        exact ⟨_, rfl, by simp (disch := omega) only [gI_ss, gI_sk, gI_sc]; exact wξ, gI_ss _ _ _ _, o0_trans (o0_trans oν oξ) (o0_5 _ _)⟩
    · have q2' := Bool.eq_false_iff.mpr q2
      rw [q2', if_pos (by rfl)]
      by_cases q : B p = 48
      · rw [if_pos q, if_pos q, show B p - 48 = 0 by omega]
        exact ⟨ξ, rfl, wξ, pξ, o0_trans oν oξ⟩
      · rw [if_neg q, if_neg q, if_neg (by decide), if_neg (by decide)]
        exact ⟨ξ, rfl, wξ, pξ, o0_trans oν oξ⟩
  · refine ⟨sI μ 0 7 1, ?_, gI_ss _ _ _ _, by simp (disch := omega) only [gI_ss, gI_sk, gI_sc]; exact hp, o0_7 _ _⟩
    unfold f_X12_figures f_X12_figures_22 f_X12_figures_27
    rw [if_pos h7, e0, bd_some, e1, bd_some, hd, if_pos (by rfl), show iz (1 : Int32) = true from rfl, gd_true, lt_eq]
    have e : ∀ fu : Nat, fx3 f_X12_figures_34 (fu + 1) 0 0 (sI μ 0 7 1) = some (0, sI μ 0 7 1) := fun fu => by
      show f_X12_figures_34 (fx3 f_X12_figures_34 fu) _ _ _ = _
      generalize fx3 f_X12_figures_34 fu = kk
      unfold f_X12_figures_34
      rw [if_neg (by decide), gI_ss, if_neg (by decide)]
    exact e 5999
end READ
