/-! RIDGES: what the mills of a place grind, -1 where one runs away -/
def tR (A : Mil) (w c : Nat) : Int32 := gN A w (2 * c) 0 0
def wdA (wind ways p : Nat) : Nat := wind - (if p = 0 then 0 else if p = 1 then ways / 16 else ways / 16 + ways / 4 % 4)
def clA (ways p : Nat) : Nat := if p = 0 then ways / 16 else if p = 1 then ways / 4 % 4 else ways % 4
def tA (A : Nat → Mil) (wind ways p c : Nat) : Int32 := tR (A p) (wdA wind ways p) c
def aR (A : Nat → Mil) (wind ways : Nat) : Int32 := tA A wind ways 0 (clA ways 0) + tA A wind ways 1 (clA ways 1) + tA A wind ways 2 (clA ways 2)
def rstN (A : Mil) (w c : Nat) : Nat → Bool
  | 0 => true
  | n + 1 => rstN A w c n && decide (tR A w n ≤ tR A w c)
def rM (A : Nat → Mil) (wind ways : Nat) : Nat → Bool
  | 0 => true
  | n + 1 => rM A wind ways n && decide (tA A wind ways (n / 4) (n % 4) ≤ tA A wind ways (n / 4) (clA ways (n / 4)))
def rC (A : Nat → Mil) (wind ways p : Nat) : Bool := rstN (A p) (wdA wind ways p) (clA ways p) 4
def rB (A : Nat → Mil) (wind ways : Nat) : Bool := rC A wind ways 0 && (rC A wind ways 1 && rC A wind ways 2)
theorem rM_12 (A : Nat → Mil) (wind ways : Nat) : rM A wind ways 12 = rB A wind ways := by
  simp only [rM, rB, rC, rstN, tA, Bool.true_and, Bool.and_assoc, Nat.reduceDiv, Nat.reduceMod, Nat.reduceAdd]
  rfl
def mo2 (f : Nat → Int32) (s : Int32) : Nat → Int32
  | 0 => s
  | n + 1 => imx (mo2 f s n) (f n)
theorem imx_lo {x y : Int32} (h : x ≤ y) : imx x y = y := by
  unfold imx
  by_cases q : x < y
  · rw [if_pos q]
  · rw [if_neg q]
    apply Int32.toInt_inj.mp
    have h1 := Int32.le_iff_toInt_le.mp (Int32.not_lt.mp q)
    have h2 := Int32.le_iff_toInt_le.mp h
    omega
theorem imx_self (y : Int32) : imx y y = y := by
  unfold imx
  split <;> rfl
theorem mo2_eq (f : Nat → Int32) {s : Int32} (h : s ≤ f 0) : ∀ n : Nat, mo2 f s (n + 1) = mo2 f (f 0) (n + 1)
  | 0 => (imx_lo h).trans (imx_self (f 0)).symm
  | n + 1 => by
    show imx (mo2 f s (n + 1)) (f (n + 1)) = imx (mo2 f (f 0) (n + 1)) (f (n + 1))
    rw [mo2_eq f h n]
theorem tR_at {A : Mil} (b : ∀ kd sg, A.1 kd sg ≤ 990) (w c : Nat) : -1 ≤ (tR A w c).toInt ∧ (tR A w c).toInt ≤ 990 := by
  unfold tR gN
  have := hMe_le b w (2 * c) 0 0
  by_cases q : hAw A w (2 * c) 0 0 = true
  · rw [if_pos q]
    decide +kernel
  · rw [if_neg q, nI_toInt (by omega)]
    omega
theorem add_at {x y : Int32} {a b c d : Int} (h1 : a ≤ x.toInt ∧ x.toInt ≤ b) (h2 : c ≤ y.toInt ∧ y.toInt ≤ d) (k1 : -1000000 ≤ a + c) (k2 : b + d ≤ 1000000) : a + c ≤ (x + y).toInt ∧ (x + y).toInt ≤ b + d := by
  have e : (x + y).toInt = x.toInt + y.toInt := by
    rw [Int32.toInt_add]
    unfold Int.bmod
    simp only
    split <;> omega
  rw [e]
  omega
theorem aR_lo {A : Nat → Mil} (b : ∀ p kd sg, (A p).1 kd sg ≤ 990) (w ways : Nat) : (-3 : Int32) ≤ aR A w ways := by
  have h := add_at (add_at (tR_at (b 0) (wdA w ways 0) (clA ways 0)) (tR_at (b 1) (wdA w ways 1) (clA ways 1)) (by omega) (by omega)) (tR_at (b 2) (wdA w ways 2) (clA ways 2)) (by omega) (by omega)
  have e : (-3 : Int32).toInt = -3 := by decide +kernel
  rw [Int32.le_iff_toInt_le, e]
  exact h.1
def fN (b : Nat → Bool) : Nat → Option Nat
  | 0 => none
  | n + 1 => match fN b n with
    | some k => some k
    | none => if b n = true then some n else none
theorem fN_lt (b : Nat → Bool) : ∀ (n k : Nat), fN b n = some k → k < n
  | n + 1, k, h => by
    cases e : fN b n with
    | some j =>
      have h : (match fN b n with | some k => some k | none => if b n = true then some n else none) = some k := h
      rw [e] at h
      have : j = k := Option.some.inj h
      have := fN_lt b n j e
      omega
    | none =>
      have h : (match fN b n with | some k => some k | none => if b n = true then some n else none) = some k := h
      rw [e] at h
      by_cases q : b n = true
      · have h : (if b n = true then some n else none) = some k := h
        rw [if_pos q] at h
        have := Option.some.inj h
        omega
      · have h : (if b n = true then some n else none) = some k := h
        rw [if_neg q] at h
        cases h
theorem fN_s {b : Nat → Bool} {n k : Nat} (h : fN b n = some k) : fN b (n + 1) = some k := by
  show (match fN b n with | some k => some k | none => if b n = true then some n else none) = some k
  rw [h]
theorem fN_n1 {b : Nat → Bool} {n : Nat} (h : fN b n = none) (q : b n = true) : fN b (n + 1) = some n := by
  show (match fN b n with | some k => some k | none => if b n = true then some n else none) = some n
  rw [h]
  exact if_pos q
theorem fN_n0 {b : Nat → Bool} {n : Nat} (h : fN b n = none) (q : b n = false) : fN b (n + 1) = none := by
  show (match fN b n with | some k => some k | none => if b n = true then some n else none) = none
  rw [h]
  exact if_neg (by rw [q]; decide)
def eC : Option Nat → Int32
  | none => -5
  | some k => nI (100 * (k / 16) + 10 * (k / 4 % 4) + k % 4)
def eM : Option Nat → Int32
  | none => -1
  | some k => nI k
def eA (f : Nat → Int32) : Option Nat → Int32
  | none => 0
  | some k => f k
theorem nI_m5 {n : Nat} (h : n < 2 ^ 31) : ¬ nI n = -5 := by
  intro q
  have h1 := nI_toInt h
  rw [q] at h1
  have h2 : (-5 : Int32).toInt = -5 := by decide +kernel
  omega
theorem imx0_sub {a b : Nat} (ha : a < 2 ^ 30) (hb : b < 2 ^ 30) : imx 0 (nI a - nI b) = nI (a - b) := by
  unfold imx
  by_cases q : b ≤ a
  · rw [nIsub q]
    by_cases q2 : a - b = 0
    · rw [q2]
      rfl
    · have : (0 : Int32) < nI (a - b) := nI_lt (a := 0) (by omega) (by omega)
      rw [if_pos this]
  · have h0 : nI a - nI b < 0 := pk_sneg hb (by omega)
    have e : a - b = 0 := by omega
    rw [if_neg (Int32.not_lt.mpr (Int32.le_of_lt h0)), e]
    rfl
theorem imx0_sub2 {a b c : Nat} (ha : a < 2 ^ 30) (hb : b + c < 2 ^ 30) : imx 0 (nI a - nI b - nI c) = nI (a - (b + c)) := by
  have e : nI a - nI b - nI c = nI a - nI (b + c) := by
    rw [← nI_add, Int32.sub_eq_add_neg, Int32.sub_eq_add_neg, Int32.sub_eq_add_neg, Int32.neg_add, Int32.add_assoc]
    first
      | rfl
      | rw [Int32.sub_eq_add_neg]
  rw [e, imx0_sub ha hb]
/-! only hours have changed -/
def hO (M : Nat) (Am : Nat → Mil) (σ0 σ : Mem) : Prop := (∀ c, c < 48 → gI σ c = gI σ0 c) ∧ (∀ j, j < M → gI σ (mo j) = gI σ0 (mo j) ∧ ∀ i, 1 ≤ i → i ≤ 4 → gI σ (mo j + i) = gI σ0 (mo j + i)) ∧ ∀ j, j < M → cHours (gI σ) j (Am j)
theorem hO_step {M : Nat} {Am : Nat → Mil} {σ0 σ σ' : Mem} {k : Nat} (h : hO M Am σ0 σ) (s2 : ∀ c, c ≠ mo k + 5 → c ≠ mo k + 6 → gI σ' c = gI σ c) (s3 : cHours (gI σ') k (Am k)) : hO M Am σ0 σ' := by
  obtain ⟨h1, h2, h3⟩ := h
  obtain ⟨o1, o2⟩ := one_mill h3 (fun c _ => s2 c) s3
  exact ⟨fun c hc => (s2 c (by unfold mo; omega) (by unfold mo; omega)).trans (h1 c hc), fun j hj => ⟨(o1 j hj).1.trans (h2 j hj).1, fun i a b => ((o1 j hj).2 i a b).trans ((h2 j hj).2 i a b)⟩, o2⟩
theorem hO_cM {M : Nat} {Am : Nat → Mil} {σ0 σ : Mem} {k : Nat} (h : hO M Am σ0 σ) (hk : k < M) (hM : cM (gI σ0) k (Am k)) : cM (gI σ) k (Am k) := cM_c hM (fun j _ _ => by rw [(h.2.1 k hk).1]) (h.2.1 k hk).2
theorem c_ground {M : Nat} {Am : Nat → Mil} {σ0 σ : Mem} {k : Nat} (h : hO M Am σ0 σ) (hM5 : M ≤ 5) (hk : k < M) (hM : cM (gI σ0) k (Am k)) {w c : Nat} (hw : w < 6) (hc : c < 4) : ∃ σ', f_X11_ground (nI k) (nI w) (nI c) σ = some (tR (Am k) w c, σ') ∧ hO M Am σ0 σ' := by
  have hMM := hO_cM h hk hM
  obtain ⟨σ', s1, s2, s3⟩ := c_hourBy hMM (h.2.2 k hk) hw (show 2 * c < 8 by omega) (show 0 < 10 by omega) (show 0 < 10 by omega)
  refine ⟨σ', ?_, hO_step h s2 s3⟩
  unfold f_X11_ground
  have e : nI c * 2 = nI (2 * c) := by
    rw [show (2 : Int32) = nI 2 from rfl, pk_mul, Nat.mul_comm]
  rw [ib_nI (by omega) (by omega), gd_true, nI_tn (by omega), e]
  rw [show (0 : Int32) = nI 0 from rfl, s1, bd_some, c_gainOf hMM.1 w (2 * c) (by omega) (by omega), bd_some]
  rfl
theorem rstN_mono (A : Mil) (w c : Nat) {n : Nat} (h : rstN A w c n = false) : ∀ d : Nat, rstN A w c (n + d) = false
  | 0 => h
  | d + 1 => by
    show (rstN A w c (n + d) && _) = false
    rw [rstN_mono A w c h d, Bool.false_and]
theorem c_rests {M : Nat} {Am : Nat → Mil} {σ0 σ : Mem} {k : Nat} (h : hO M Am σ0 σ) (hM5 : M ≤ 5) (hk : k < M) (hM : cM (gI σ0) k (Am k)) {w c : Nat} (hw : w < 6) (hc : c < 4) : ∃ σ', f_X11_rests (nI k) (nI w) (nI c) σ = some (bI (rstN (Am k) w c 4), σ') ∧ hO M Am σ0 σ' := by
  have key : ∀ m i fu : Nat, ∀ τ : Mem, i + m = 4 → m < fu → hO M Am σ0 τ → rstN (Am k) w c i = true → ∃ σ', fx5 f_X11_rests_12 fu (nI k) (nI w) (tR (Am k) w c) (nI i) τ = some (bI (rstN (Am k) w c 4), σ') ∧ hO M Am σ0 σ' := by
    intro m
    induction m with
    | zero =>
      intro i fu τ hi hf ht hr
      obtain ⟨fu, rfl⟩ : ∃ z, fu = z + 1 := ⟨fu - 1, by omega⟩
      have hi : i = 4 := by omega
      subst hi
      refine ⟨τ, ?_, ht⟩
      show f_X11_rests_12 _ _ _ _ _ _ = _
      unfold f_X11_rests_12
      rw [hr]
      exact if_pos (by decide)
    | succ m ih =>
      intro i fu τ hi hf ht hr
      obtain ⟨fu, rfl⟩ : ∃ z, fu = z + 1 := ⟨fu - 1, by omega⟩
      obtain ⟨τ', t1, t2⟩ := c_ground ht hM5 hk hM hw (show i < 4 by omega)
      have e : rstN (Am k) w c (i + 1) = decide (tR (Am k) w i ≤ tR (Am k) w c) := by
        show (rstN (Am k) w c i && _) = _
        rw [hr, Bool.true_and]
      by_cases q : tR (Am k) w i ≤ tR (Am k) w c
      · obtain ⟨σ', u1, u2⟩ := ih (i + 1) fu τ' (by omega) (by omega) t2 (by rw [e]; exact decide_eq_true q)
        refine ⟨σ', ?_, u2⟩
        rw [← u1]
        show f_X11_rests_12 (fx5 f_X11_rests_12 fu) _ _ _ _ _ = _
        generalize fx5 f_X11_rests_12 fu = kk
        unfold f_X11_rests_12
        simp (disch := omega) only [lt_eq, bd_some, bv_some, li, pk_mul, nI_add, nIsub, nIlt, nIle, nIeq, nIdiv, nIrem, neg_, pos_, ib_nI, gd_true, nI_tn, gI_ss, gI_sk, gI_sc, ↓reduceIte, nIn1b, t1]
      · refine ⟨τ', ?_, t2⟩
        have e4 : rstN (Am k) w c 4 = false := by
          have := rstN_mono (Am k) w c (n := i + 1) (by rw [e]; exact decide_eq_false q) m
          rw [show i + 1 + m = 4 by omega] at this
          exact this
        rw [e4]
        show f_X11_rests_12 (fx5 f_X11_rests_12 fu) _ _ _ _ _ = _
        generalize fx5 f_X11_rests_12 fu = kk
        unfold f_X11_rests_12
        simp (disch := omega) only [lt_eq, bd_some, bv_some, li, pk_mul, nI_add, nIsub, nIlt, nIle, nIeq, nIdiv, nIrem, neg_, pos_, ib_nI, gd_true, nI_tn, gI_ss, gI_sk, gI_sc, ↓reduceIte, nIn1b, t1]
        rfl
  obtain ⟨τ, t1, t2⟩ := c_ground h hM5 hk hM hw hc
  have hf : 4 < FU := by decide
  obtain ⟨σ', u1, u2⟩ := key 4 0 FU τ (by omega) hf t2 rfl
  refine ⟨σ', ?_, u2⟩
  unfold f_X11_rests
  rw [t1, bd_some]
  exact u1
