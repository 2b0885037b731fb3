/-! BOTH READERS -/
def L2 (i : Nat) : Nat := [119, 99, 115, 104, 100, 102].getD i 0
def L3 (i : Nat) : Nat := [60, 61, 62].getD i 0
theorem lw2 : LW 2 6 L2 := ⟨rfl, by omega, by omega, fun i hi => by
  rcases (show i = 0 ∨ i = 1 ∨ i = 2 ∨ i = 3 ∨ i = 4 ∨ i = 5 by omega) with rfl | rfl | rfl | rfl | rfl | rfl <;> exact ⟨rfl, by decide⟩⟩
theorem lw3 : LW 3 3 L3 := ⟨rfl, by omega, by omega, fun i hi => by
  rcases (show i = 0 ∨ i = 1 ∨ i = 2 by omega) with rfl | rfl | rfl <;> exact ⟨rfl, by decide⟩⟩
def PS (k t : Nat) (B : Nat → Nat) (x p c m q : Nat) (σ μ : Mem) : Prop := CB t B σ ∧ gI σ 40 1 = nI (mo k) ∧ gI σ 40 2 = nI p ∧ gI σ (mo k) 7 = nI c ∧ MB t B μ ∧ gI μ 0 4 = nI k ∧ gI μ 0 5 = nI p ∧ gI μ 0 7 = 0 ∧ gI μ 0 8 = nI q ∧ gI μ 1 (146 + k) = nI m ∧ p ≤ t ∧ c ≤ p ∧ m ≤ p + x ∧ k < 5 ∧ x ≤ 10 ∧ q ≤ 5
def Fc (k c : Nat) (σ σ' : Mem) : Prop := (∀ r, r ≠ 40 → r ≠ mo k → r ≠ mo k + 4 → gI σ' r = gI σ r) ∧ (∀ j, j ≠ 2 → gI σ' 40 j = gI σ 40 j) ∧ (∀ j, j ≠ 7 → gI σ' (mo k) j = gI σ (mo k) j) ∧ ∀ j, j < c → gI σ' (mo k + 4) j = gI σ (mo k + 4) j
def Fm (k m : Nat) (μ μ' : Mem) : Prop := (∀ r, r ≠ 0 → r ≠ 1 → gI μ' r = gI μ r) ∧ (∀ j, j ≠ 5 → j ≠ 7 → j ≠ 8 → gI μ' 0 j = gI μ 0 j) ∧ ∀ j, j ≠ 146 + k → (j < 151 + 140 * k + m ∨ 291 + 140 * k ≤ j) → gI μ' 1 j = gI μ 1 j
def Bad (k t c : Nat) (σ' μ' : Mem) : Prop := ∃ p' c', p' ≤ t ∧ c ≤ c' ∧ c' ≤ 120 ∧ gI σ' 40 2 = nI p' ∧ gI σ' (mo k) 7 = nI c' ∧ gI μ' 0 5 = nI p' ∧ gI μ' 0 7 = 1
def Good (k t : Nat) (B : Nat → Nat) (x h q p c m : Nat) (TC T : (Nat → Int32) → Bool) (p' c' m' : Nat) (σ μ σ' μ' : Mem) : Prop := Fc k c σ σ' ∧ Fm k m μ μ' ∧ p < p' ∧ c ≤ c' ∧ c' + p ≤ c + p' ∧ m ≤ m' ∧ m' + p ≤ m + p' ∧ PS k t B x p' c' m' q σ' μ' ∧ SC (mo k) (gI σ' (mo k + 4)) c c' TC h ∧ SM k (gI μ' 1) (151 + 140 * k + m) (151 + 140 * k + m') T h
def Res (k t : Nat) (B : Nat → Nat) (x h q p c m : Nat) (par : Bool) (σ μ : Mem) (r : Int32) (σ' μ' : Mem) : Prop := (r = 1 ∧ ∃ (p' c' m' : Nat) (T : (Nat → Int32) → Bool), Good k t B x h q p c m (fun s => Bool.xor par (T s)) T p' c' m' σ μ σ' μ') ∨ (r = 0 ∧ Fc k c σ σ' ∧ Fm k m μ μ' ∧ Bad k t c σ' μ')
theorem mo40 (k : Nat) : mo k ≠ 40 := by unfold mo; omega
theorem Fc_refl (k c : Nat) (σ : Mem) : Fc k c σ σ := ⟨fun _ _ _ _ => rfl, fun _ _ => rfl, fun _ _ => rfl, fun _ _ => rfl⟩
theorem Fm_refl (k m : Nat) (μ : Mem) : Fm k m μ μ := ⟨fun _ _ _ => rfl, fun _ _ _ _ => rfl, fun _ _ _ => rfl⟩
theorem Fc_trans {k c c1 : Nat} {σ τ υ : Mem} (h1 : Fc k c σ τ) (h2 : Fc k c1 τ υ) (hc : c ≤ c1) : Fc k c σ υ := ⟨fun r a b d => (h2.1 r a b d).trans (h1.1 r a b d), fun j a => (h2.2.1 j a).trans (h1.2.1 j a), fun j a => (h2.2.2.1 j a).trans (h1.2.2.1 j a), fun j a => (h2.2.2.2 j (by omega)).trans (h1.2.2.2 j a)⟩
theorem Fm_trans {k m m1 : Nat} {μ τ υ : Mem} (h1 : Fm k m μ τ) (h2 : Fm k m1 τ υ) (hm : m ≤ m1) : Fm k m μ υ := ⟨fun r a b => (h2.1 r a b).trans (h1.1 r a b), fun j a b d => (h2.2.1 j a b d).trans (h1.2.1 j a b d), fun j a b => (h2.2.2 j a (by omega)).trans (h1.2.2 j a b)⟩
theorem Fc_o {k c : Nat} {σ τ : Mem} (h : o40 σ τ) : Fc k c σ τ := ⟨fun r a _ _ => h.1 r a, h.2, fun j _ => by rw [h.1 _ (mo40 k)], fun j _ => by rw [h.1 _ (by unfold mo; omega)]⟩
theorem Fm_o {k m : Nat} {μ τ : Mem} (h : o0 μ τ) : Fm k m μ τ := ⟨fun r a _ => h.1 r a, fun j a b _ => h.2 j a b, fun j _ _ => by rw [h.1 1 (by omega)]⟩
theorem CB_F {k c t : Nat} {B : Nat → Nat} {σ τ : Mem} (h : CB t B σ) (f : Fc k c σ τ) : CB t B τ := by
  obtain ⟨h1, h2, h3, h4, h5⟩ := h
  exact ⟨by rw [f.1 3 (by omega) (by unfold mo; omega) (by unfold mo; omega)]; exact h1, fun j hj => by rw [f.1 4 (by omega) (by unfold mo; omega) (by unfold mo; omega)]; exact h2 j hj, by rw [f.2.1 0 (by omega)]; exact h3, h4, h5⟩
theorem MB_F {k m t : Nat} {B : Nat → Nat} {μ τ : Mem} (h : MB t B μ) (f : Fm k m μ τ) : MB t B τ := by
  obtain ⟨h1, h2, h4, h5⟩ := h
  exact ⟨by rw [f.2.1 6 (by omega) (by omega) (by omega)]; exact h1, fun j hj => by rw [f.2.2 (11 + j) (by omega) (by omega)]; exact h2 j hj, h4, h5⟩
theorem c_code {k c : Nat} {σ : Mem} (v : Int32) (h7 : gI σ (mo k) 7 = nI c) (hc : c < 120) : f_X3_appendCode (mo k) v σ = some (sI (sI σ (mo k + 4) c v) (mo k) 7 (nI (c + 1))) := by
  have e : gI (sI σ (mo k + 4) c v) (mo k) 7 = nI c := by rw [gI_sc _ _ _ _ (by omega)]; exact h7
  unfold f_X3_appendCode
  rw [h7, if_neg (show ¬ (120 : Int32) ≤ nI c from nI_ge (b := 120) hc (by omega)), ib_nI hc (by omega), gd_true, nI_tn (by omega), lt_eq, e, nI_1, lt_eq]
theorem Fc_code {k c c1 : Nat} (σ : Mem) (v w : Int32) (h : c ≤ c1) : Fc k c σ (sI (sI σ (mo k + 4) c1 v) (mo k) 7 w) := ⟨fun r _ b d => by rw [gIr _ _ _ b, gIr _ _ _ d], fun j _ => by rw [gI_sc _ _ _ _ (Ne.symm (mo40 k)), gI_sc _ _ _ _ (by unfold mo; omega)], fun j a => by rw [gI_sk _ _ _ a, gI_sc _ _ _ _ (by omega)], fun j a => by rw [gI_sc _ _ _ _ (by omega), gI_sk _ _ _ (by omega)]⟩
theorem c_codeX {k c : Nat} {σ : Mem} (v : Int32) (h7 : gI σ (mo k) 7 = nI c) (hc : c ≤ 120) : ∃ σ' c', f_X3_appendCode (mo k) v σ = some σ' ∧ Fc k c σ σ' ∧ gI σ' 40 2 = gI σ 40 2 ∧ gI σ' (mo k) 7 = nI c' ∧ c ≤ c' ∧ c' ≤ 120 := by
  by_cases q : c < 120
  · exact ⟨_, c + 1, c_code v h7 q, Fc_code σ v _ (Nat.le_refl _), by rw [gI_sc _ _ _ _ (Ne.symm (mo40 k)), gI_sc _ _ _ _ (by unfold mo; omega)], gI_ss _ _ _ _, by omega, by omega⟩
  · refine ⟨σ, c, ?_, Fc_refl _ _ _, rfl, h7, Nat.le_refl _, hc⟩
    unfold f_X3_appendCode
    rw [h7, if_pos (show (120 : Int32) ≤ nI c from nI_le (a := 120) (by omega) (by omega))]
theorem m_emit {k m : Nat} {μ : Mem} (v : Int32) (hk : k < 5) (h4 : gI μ 0 4 = nI k) (h7 : gI μ 0 7 = 0) (h1 : gI μ 1 (146 + k) = nI m) (hm : m < 140) : f_X12_emits v μ = some (sI (sI μ 1 (151 + 140 * k + m) v) 1 (146 + k) (nI (m + 1))) := by
  have e1 : (146 : Int32) + nI k = nI (146 + k) := nI_add 146 k
  have e2 : ((151 : Int32) + ((140 : Int32) * nI k)) + nI m = nI (151 + 140 * k + m) := by simp only [li, pk_mul, nI_add]
  have e3 : gI (sI μ 1 (151 + 140 * k + m) v) 0 4 = nI k := by simp (disch := omega) only [gI_ss, gI_sk, gI_sc]; exact h4
  have e4 : gI (sI μ 1 (151 + 140 * k + m) v) 1 (146 + k) = nI m := by simp (disch := omega) only [gI_ss, gI_sk, gI_sc]; exact h1
  have b1 : ib (nI (146 + k)) 1055 = true := ib_nI (by omega) (by omega)
  have b2 : ib (nI (151 + 140 * k + m)) 1055 = true := ib_nI (by omega) (by omega)
  have n1 : (nI (146 + k)).toNatClampNeg = 146 + k := nI_tn (by omega)
  have n2 : (nI (151 + 140 * k + m)).toNatClampNeg = 151 + 140 * k + m := nI_tn (by omega)
  unfold f_X12_emits
  rw [if_pos h7, h4, e1, n1, h1, e2, b1, gd_true, b2, gd_true, n2, lt_eq, e3, e1, n1, e4, b1, gd_true, gd_true, nI_1, lt_eq]
theorem Fm_emit {k m m1 : Nat} (μ : Mem) (v w : Int32) (h : m ≤ m1) (h2 : m1 < 140) : Fm k m μ (sI (sI μ 1 (151 + 140 * k + m1) v) 1 (146 + k) w) := ⟨fun r a b => by rw [gIr _ _ _ b, gIr _ _ _ b], fun j _ _ _ => by rw [gI_sc _ _ _ _ (by omega), gI_sc _ _ _ _ (by omega)], fun j a b => by rw [gI_sk _ _ _ a, gI_sk _ _ _ (by omega)]⟩
/-! what is wrong stays as it is -/
theorem w_emit {μ : Mem} (v : Int32) (h7 : gI μ 0 7 = 1) : f_X12_emits v μ = some μ := by
  unfold f_X12_emits
  rw [h7, if_neg (by decide)]
theorem w_set {μ : Mem} (h7 : gI μ 0 7 = 1) : sI μ 0 7 1 = μ := by
  have := sI_self μ 0 7
  rw [h7] at this
  exact this
theorem w_must {μ : Mem} (c : Int32) (h7 : gI μ 0 7 = 1) : f_X12_must c μ = some μ := by
  unfold f_X12_must f_X12_must_16 f_X12_must_21
  rw [h7, if_neg (by decide), show iz (1 : Int32) = true from rfl, gd_true, lt_eq, w_set h7, h7, if_neg (by decide), Int32.add_zero, lt_eq, sI_self]
theorem w_fig {μ : Mem} (h7 : gI μ 0 7 = 1) : f_X12_figures μ = some (0, μ) := by
  unfold f_X12_figures f_X12_figures_22 f_X12_figures_27
  rw [h7, if_neg (by decide), show iz (1 : Int32) = true from rfl, gd_true, lt_eq, w_set h7]
  have e : ∀ fu : Nat, fx3 f_X12_figures_34 (fu + 1) 0 0 μ = some (0, μ) := fun fu => by
    show f_X12_figures_34 (fx3 f_X12_figures_34 fu) _ _ _ = _
    generalize fx3 f_X12_figures_34 fu = kk
    unfold f_X12_figures_34
    rw [if_neg (by decide), h7, if_neg (by decide)]
  exact e 5999
theorem w_factor {μ : Mem} (n : Nat) (h7 : gI μ 0 7 = 1) : fx1 f_X12_factor_F (n + 1) μ = some μ := by
  show f_X12_factor_F (fx1 f_X12_factor_F n) μ = _
  unfold f_X12_factor_F
  rw [h7, if_neg (by decide)]
theorem w_every {μ : Mem} {rc : Mem → Option Mem} (hr : rc μ = some μ) (h7 : gI μ 0 7 = 1) : f_X12_every rc μ = some μ := by
  have e : ∀ fu : Nat, fx1 (f_X12_every_4 rc) (fu + 1) μ = some μ := fun fu => by
    show f_X12_every_4 rc (fx1 (f_X12_every_4 rc) fu) μ = _
    unfold f_X12_every_4
    rw [h7, if_neg (by decide)]
  unfold f_X12_every
  rw [hr, bv_some]
  exact e 5999
theorem w_some {μ : Mem} {rc : Mem → Option Mem} (hr : rc μ = some μ) (h7 : gI μ 0 7 = 1) : f_X12_some rc μ = some μ := by
  have e : ∀ fu : Nat, fx1 (f_X12_some_4 rc) (fu + 1) μ = some μ := fun fu => by
    show f_X12_some_4 rc (fx1 (f_X12_some_4 rc) fu) μ = _
    unfold f_X12_some_4
    rw [h7, if_neg (by decide)]
  unfold f_X12_some
  rw [w_every hr h7, bv_some]
  exact e 5999
section JOINT
variable {k t : Nat} {B : Nat → Nat} {x : Nat}
/-- a place further -/
theorem PS_p {p p' c m q : Nat} {σ μ σ' μ' : Mem} (h : PS k t B x p c m q σ μ) (a : o40 σ σ') (b : o0 μ μ') (a2 : gI σ' 40 2 = nI p') (b2 : gI μ' 0 5 = nI p') (b7 : gI μ' 0 7 = 0) (hp : p ≤ p') (hp2 : p' ≤ t) : PS k t B x p' c m q σ' μ' := by
  obtain ⟨h1, h2, h3, h4, h5, h6, h7, h8, h9, h10, h11, h12, h13, h14, h15, h16⟩ := h
  exact ⟨CB_o h1 a, by rw [a.2 1 (by omega)]; exact h2, a2, by rw [a.1 _ (mo40 k)]; exact h4, MB_o h5 b, by rw [b.2 4 (by omega) (by omega)]; exact h6, b2, b7, by rw [b.2 8 (by omega) (by omega)]; exact h9, by rw [b.1 1 (by omega)]; exact h10, hp2, by omega, by omega, h14, h15, h16⟩
/-- another number of open ones -/
theorem PS_q {p c m q q' : Nat} {σ μ : Mem} (h : PS k t B x p c m q σ μ) (hq : q' ≤ 5) : PS k t B x p c m q' σ (sI μ 0 8 (nI q')) := by
  obtain ⟨h1, h2, h3, h4, ⟨m1, m2, m3, m4⟩, h6, h7, h8, h9, h10, h11, h12, h13, h14, h15, h16⟩ := h
  exact ⟨h1, h2, h3, h4, ⟨by simp (disch := omega) only [gI_ss, gI_sk, gI_sc]; exact m1, fun j hj => by simp (disch := omega) only [gI_ss, gI_sk, gI_sc]; exact m2 j hj, m3, m4⟩, by simp (disch := omega) only [gI_ss, gI_sk, gI_sc]; exact h6, by simp (disch := omega) only [gI_ss, gI_sk, gI_sc]; exact h7, by simp (disch := omega) only [gI_ss, gI_sk, gI_sc]; exact h8, by simp (disch := omega) only [gI_ss, gI_sk, gI_sc], by simp (disch := omega) only [gI_ss, gI_sk, gI_sc]; exact h10, h11, h12, h13, h14, h15, hq⟩
theorem Fm_8 {m : Nat} (μ : Mem) (v : Int32) : Fm k m μ (sI μ 0 8 v) := ⟨fun r a _ => gIr _ _ _ a, fun j _ _ d => gI_sk _ _ _ d, fun j _ _ => gI_sc _ _ _ _ (by omega)⟩
/-- one more code on both sides -/
theorem PS_code {p c m q : Nat} {σ μ : Mem} (h : PS k t B x p c m q σ μ) (hc : c + 1 ≤ p) (hm : m + 1 ≤ p + x) (v w : Int32) : PS k t B x p (c + 1) (m + 1) q (sI (sI σ (mo k + 4) c v) (mo k) 7 (nI (c + 1))) (sI (sI μ 1 (151 + 140 * k + m) w) 1 (146 + k) (nI (m + 1))) := by
  obtain ⟨h1, h2, h3, h4, h5, h6, h7, h8, h9, h10, h11, h12, h13, h14, h15, h16⟩ := h
  have f := Fc_code (k := k) (c := c) (c1 := c) σ v (nI (c + 1)) (Nat.le_refl _)
  have t120 := h1.2.2.2.1
  have g := Fm_emit (k := k) (m := m) (m1 := m) μ w (nI (m + 1)) (Nat.le_refl _) (by omega)
  exact ⟨CB_F h1 f, by rw [f.2.1 1 (by omega)]; exact h2, by rw [gI_sc _ _ _ _ (Ne.symm (mo40 k)), gI_sc _ _ _ _ (by unfold mo; omega)]; exact h3, gI_ss _ _ _ _, MB_F h5 g, by simp (disch := omega) only [gI_ss, gI_sk, gI_sc]; exact h6, by simp (disch := omega) only [gI_ss, gI_sk, gI_sc]; exact h7, by simp (disch := omega) only [gI_ss, gI_sk, gI_sc]; exact h8, by simp (disch := omega) only [gI_ss, gI_sk, gI_sc]; exact h9, by simp (disch := omega) only [gI_ss, gI_sk, gI_sc], h11, hc, hm, h14, h15, h16⟩
/-- one more code on the class's side -/
theorem PS_cc {p c m q : Nat} {σ μ : Mem} (h : PS k t B x p c m q σ μ) (hc : c + 1 ≤ p) (v : Int32) : PS k t B x p (c + 1) m q (sI (sI σ (mo k + 4) c v) (mo k) 7 (nI (c + 1))) μ := by
  obtain ⟨h1, h2, h3, h4, h5, h6, h7, h8, h9, h10, h11, h12, h13, h14, h15, h16⟩ := h
  have f := Fc_code (k := k) (c := c) (c1 := c) σ v (nI (c + 1)) (Nat.le_refl _)
  exact ⟨CB_F h1 f, by rw [f.2.1 1 (by omega)]; exact h2, by rw [gI_sc _ _ _ _ (Ne.symm (mo40 k)), gI_sc _ _ _ _ (by unfold mo; omega)]; exact h3, gI_ss _ _ _ _, h5, h6, h7, h8, h9, h10, h11, hc, h13, h14, h15, h16⟩
/-- one more code on the model's side -/
theorem PS_mm {p c m q : Nat} {σ μ : Mem} (h : PS k t B x p c m q σ μ) (hm : m + 1 ≤ p + x) (w : Int32) : PS k t B x p c (m + 1) q σ (sI (sI μ 1 (151 + 140 * k + m) w) 1 (146 + k) (nI (m + 1))) := by
  obtain ⟨h1, h2, h3, h4, h5, h6, h7, h8, h9, h10, h11, h12, h13, h14, h15, h16⟩ := h
  have t120 := h1.2.2.2.1
  have g := Fm_emit (k := k) (m := m) (m1 := m) μ w (nI (m + 1)) (Nat.le_refl _) (by omega)
  exact ⟨h1, h2, h3, h4, MB_F h5 g, by simp (disch := omega) only [gI_ss, gI_sk, gI_sc]; exact h6, by simp (disch := omega) only [gI_ss, gI_sk, gI_sc]; exact h7, by simp (disch := omega) only [gI_ss, gI_sk, gI_sc]; exact h8, by simp (disch := omega) only [gI_ss, gI_sk, gI_sc]; exact h9, by simp (disch := omega) only [gI_ss, gI_sk, gI_sc], h11, h12, hm, h14, h15, h16⟩
/-- a test, on the model's side -/
def mTest (rc : Mem → Option Mem) (μ : Mem) : Option Mem := bd (f_X12_among 2 μ) fun r_7 σ_8 => if r_7 = (-1 : Int32) then f_X12_factor_130 rc r_7 (1 : Int32) σ_8 else f_X12_factor_130 rc r_7 (0 : Int32) σ_8
theorem J_test (rc : Mem → Option Mem) {p c m q : Nat} {σ μ : Mem} (hP : PS k t B x p c m q σ μ) : ∃ r σ' μ', f_X6_readTest σ = some (r, σ') ∧ mTest rc μ = some μ' ∧ ((r = 1 ∧ ∃ (p' c' m' : Nat) (T : (Nat → Int32) → Bool), p + 3 ≤ p' ∧ c' = c + 1 ∧ Good k t B x 1 q p c m T T p' c' m' σ μ σ' μ') ∨ (r = 0 ∧ Fc k c σ σ' ∧ Fm k m μ μ' ∧ Bad k t c σ' μ')) := by
  have hPP := hP
  obtain ⟨h1, h2, h3, h4, h5, h6, h7, h8, h9, h10, h11, h12, h13, h14, h15, h16⟩ := hP
  have t120 := h1.2.2.2.1
  -- the model, where nothing fits
  have wrong : ∀ (x2 x3 : Int32) (τ : Mem) (y : Nat), gI τ 0 5 = nI y → ∃ μ', f_X12_factor_169 rc x2 x3 1 τ = some μ' ∧ o0 τ μ' ∧ gI μ' 0 5 = nI y ∧ gI μ' 0 7 = 1 := by
    intro x2 x3 τ y hy
    have w7 : gI (sI τ 0 7 1) 0 7 = 1 := gI_ss _ _ _ _
    refine ⟨sI τ 0 7 1, ?_, o0_7 _ _, by simp (disch := omega) only [gI_ss, gI_sk, gI_sc]; exact hy, w7⟩
    unfold f_X12_factor_169
    rw [show iz (1 : Int32) = true from rfl, gd_true, lt_eq, w_fig w7, bd_some, w_emit _ w7, bv_some]
  rcases c_placeIn lw2 h1 h3 (by omega) with ⟨i, i1, i2, i3, i4, i5⟩ | ⟨i1, i2⟩
  · have e2 : f_X12_among 2 μ = some (nI i, sI μ 0 5 (nI (p + 1))) := by
      rcases m_among lw2 h5 h7 (by omega) with ⟨j, j1, j2, j3, j4, j5⟩ | ⟨j1, j2⟩
      · have : j = i := by
          rcases Nat.lt_trichotomy j i with z | z | z
          · exact absurd j3 (i4 j z)
          · exact z
          · exact absurd i3 (j4 i z)
        rw [j5, this]
      · exact absurd ⟨i2, i3⟩ (j1 i i1)
    obtain ⟨σ1, hσ1⟩ : ∃ σ1, σ1 = sI σ 40 2 (nI (p + 1)) := ⟨_, rfl⟩
    obtain ⟨μ1, hμ1⟩ : ∃ μ1, μ1 = sI (sI μ 0 5 (nI (p + 1))) 0 7 0 := ⟨_, rfl⟩
    have oσ : o40 σ σ1 := by rw [hσ1]; exact o40_s _ _
    have oμ : o0 μ μ1 := by rw [hμ1]; exact o0_trans (o0_5 _ _) (o0_7 _ _)
    have P1 : PS k t B x (p + 1) c m q σ1 μ1 := PS_p hPP oσ oμ (by rw [hσ1]; simp (disch := omega) only [gI_ss, gI_sk, gI_sc]) (by rw [hμ1]; simp (disch := omega) only [gI_ss, gI_sk, gI_sc]) (by rw [hμ1]; simp (disch := omega) only [gI_ss, gI_sk, gI_sc]) (by omega) (by omega)
    obtain ⟨g1, g2, g3, g4, g5, g6, g7, g8, g9, g10, g11, g12, g13, g14, g15, g16⟩ := id P1
    have m130 : mTest rc μ = bd (f_X12_among 3 μ1) fun r_15 σ_16 => f_X12_factor_150 rc (nI i) r_15 σ_16 := by
      unfold mTest
      rw [e2, bd_some, if_neg (nI_m1 (by omega))]
      unfold f_X12_factor_130
      rw [show iz (0 : Int32) = true from rfl, gd_true, lt_eq, ← hμ1, g8, if_pos rfl]
    have c1 : f_X6_readTest σ = bd (f_X6_placeIn 3 σ1) fun r_6 σ_7 => if 0 ≤ r_6 then (lt (sI σ_7 40 2 ((gI σ_7 40 2) + (1 : Int32))) fun σ_10 => bd (f_X6_readNumber σ_10) fun r_11 σ_12 => if 0 ≤ r_11 then (gd (im (gI σ_12 40 1)) <| bd (f_J0_length_8abf5 3 σ_12) fun r_16 σ_17 => bv (f_X3_appendCode ((gI σ_12 40 1).toNatClampNeg) ((((nI i * r_16) + r_6) * (100 : Int32)) + r_11) σ_17) fun σ_20 => some ((1 : Int32), σ_20)) else some ((0 : Int32), σ_12)) else some ((0 : Int32), σ_7) := by
      unfold f_X6_readTest
      rw [i5, bd_some, if_pos (nI_pos' (by omega)), h3, nI_1, lt_eq, ← hσ1]
    rcases c_placeIn lw3 g1 g3 (by omega) with ⟨d, d1, d2, d3, d4, d5⟩ | ⟨d1, d2⟩
    · have e3 : f_X12_among 3 μ1 = some (nI d, sI μ1 0 5 (nI (p + 1 + 1))) := by
        rcases m_among lw3 g5 g7 (by omega) with ⟨j, j1, j2, j3, j4, j5⟩ | ⟨j1, j2⟩
        · have : j = d := by
            rcases Nat.lt_trichotomy j d with z | z | z
            · exact absurd j3 (d4 j z)
            · exact z
            · exact absurd d3 (j4 d z)
          rw [j5, this]
        · exact absurd ⟨d2, d3⟩ (j1 d d1)
      obtain ⟨σ2, hσ2⟩ : ∃ σ2, σ2 = sI σ1 40 2 (nI (p + 2)) := ⟨_, rfl⟩
      obtain ⟨μ2, hμ2⟩ : ∃ μ2, μ2 = sI (sI μ1 0 5 (nI (p + 2))) 0 7 0 := ⟨_, rfl⟩
      have oσ2 : o40 σ1 σ2 := by rw [hσ2]; exact o40_s _ _
      have oμ2 : o0 μ1 μ2 := by rw [hμ2]; exact o0_trans (o0_5 _ _) (o0_7 _ _)
      have P2 : PS k t B x (p + 2) c m q σ2 μ2 := PS_p P1 oσ2 oμ2 (by rw [hσ2]; simp (disch := omega) only [gI_ss, gI_sk, gI_sc]) (by rw [hμ2]; simp (disch := omega) only [gI_ss, gI_sk, gI_sc]) (by rw [hμ2]; simp (disch := omega) only [gI_ss, gI_sk, gI_sc]) (by omega) (by omega)
      obtain ⟨f1, f2, f3, f4, f5, f6, f7, f8, f9, f10, f11, f12, f13, f14, f15, f16⟩ := id P2
      have m169 : mTest rc μ = bd (f_X12_figures μ2) fun r_40 σ_41 => bv (f_X12_emits ((nI i + ((8 : Int32) * nI d)) + ((32 : Int32) * r_40)) σ_41) fun σ_44 => some σ_44 := by
        rw [m130, e3, bd_some]
        unfold f_X12_factor_150
        have z7 : gI (sI μ1 0 5 (nI (p + 1 + 1))) 0 7 = 0 := by simp (disch := omega) only [gI_ss, gI_sk, gI_sc]; exact g8
        rw [z7, if_pos rfl, if_neg (nI_m1 (by omega))]
        unfold f_X12_factor_169
        rw [show iz (0 : Int32) = true from rfl, gd_true, lt_eq, hμ2]
      have c2 : f_X6_readTest σ = bd (f_X6_readNumber σ2) fun r_11 σ_12 => if 0 ≤ r_11 then (gd (im (gI σ_12 40 1)) <| bd (f_J0_length_8abf5 3 σ_12) fun r_16 σ_17 => bv (f_X3_appendCode ((gI σ_12 40 1).toNatClampNeg) ((((nI i * r_16) + nI d) * (100 : Int32)) + r_11) σ_17) fun σ_20 => some ((1 : Int32), σ_20)) else some ((0 : Int32), σ_12) := by
        rw [c1, d5, bd_some, if_pos (nI_pos' (by omega)), g3, nI_1, lt_eq, hσ2]
      obtain ⟨n1, n2⟩ := c_number f1 f3 (by omega)
      obtain ⟨y1, y2⟩ := m_figures f5 f7 (by omega) f8
      by_cases qd : isD t B (p + 2) = true
      · obtain ⟨σ3, a1, a2, a3⟩ := n1 qd
        obtain ⟨μ3, b1, b2, b3, b4⟩ := y1 qd
        have hv := nuV_le qd
        have he := nuE_at qd
        have P3 : PS k t B x (nuE t B (p + 2)) c m q σ3 μ3 := PS_p P2 a3 b4 a2 b3 b2 (by omega) (by omega)
        obtain ⟨k1, k2, k3, k4, k5, k6, k7, k8, k9, k10, k11, k12, k13, k14, k15, k16⟩ := id P3
        have ec : (((nI i * nI 3) + nI d) * (100 : Int32)) + nI (nuV t B (p + 2)) = nI ((i * 3 + d) * 100 + nuV t B (p + 2)) := by
          rw [show (100 : Int32) = nI 100 from rfl, pk_mul, nI_add, pk_mul, nI_add]
        have em : (nI i + ((8 : Int32) * nI d)) + ((32 : Int32) * nI (nuV t B (p + 2))) = nI (i + 8 * d + 32 * nuV t B (p + 2)) := by
          rw [show (8 : Int32) = nI 8 from rfl, show (32 : Int32) = nI 32 from rfl, pk_mul, pk_mul, nI_add, nI_add]
        have P4 := PS_code P3 (by omega) (by omega) (nI ((i * 3 + d) * 100 + nuV t B (p + 2))) (nI (i + 8 * d + 32 * nuV t B (p + 2)))
        refine ⟨1, _, _, ?_, ?_, Or.inl ⟨rfl, nuE t B (p + 2), c + 1, m + 1, tT i d (nuV t B (p + 2)), by omega, rfl, Fc_trans (Fc_o (c := c) (o40_trans (o40_trans oσ oσ2) a3)) (Fc_code σ3 _ _ (Nat.le_refl c)) (Nat.le_refl c), Fm_trans (Fm_o (m := m) (o0_trans (o0_trans oμ oμ2) b4)) (Fm_emit μ3 _ _ (Nat.le_refl m) (by omega)) (Nat.le_refl m), by omega, by omega, by omega, by omega, by omega, P4, SC_test i1 d1 (by omega) ?_, SM_test i1 d1 (by omega) ?_⟩⟩
        · rw [c2, a1, bd_some, if_pos (nI_pos' (by omega)), k2, im_mo h14, gd_true, len_w lw3, bd_some, tn_mo h14, ec, c_code _ k4 (by omega), bv_some]
        · rw [m169, b1, bd_some, em, m_emit _ h14 k6 k8 k10 (by omega), bv_some]
        · rw [gI_sc _ _ _ _ (by omega), gI_ss]
        · rw [gI_sk _ _ _ (by omega), gI_ss]
      · have qd := Bool.eq_false_iff.mpr qd
        obtain ⟨μ3, b1, b2, b3, b4⟩ := y2 qd
        refine ⟨0, σ2, μ3, ?_, ?_, Or.inr ⟨rfl, Fc_o (o40_trans oσ oσ2), Fm_o (o0_trans (o0_trans oμ oμ2) b4), p + 2, c, by omega, Nat.le_refl _, by omega, f3, f4, b3, b2⟩⟩
        · rw [c2, n2 qd, bd_some, if_neg (by decide)]
        · rw [m169, b1, bd_some, w_emit _ b2, bv_some]
    · have e3 : f_X12_among 3 μ1 = some (-1, μ1) := by
        rcases m_among lw3 g5 g7 (by omega) with ⟨j, j1, j2, j3, j4, j5⟩ | ⟨j1, j2⟩
        · exact absurd ⟨j2, j3⟩ (d1 j j1)
        · exact j2
      obtain ⟨μ', w1, w2, w3, w4⟩ := wrong (nI i) (-1) μ1 (p + 1) g7
      refine ⟨0, σ1, μ', ?_, ?_, Or.inr ⟨rfl, Fc_o oσ, Fm_o (o0_trans oμ w2), p + 1, c, by omega, Nat.le_refl _, by omega, g3, g4, w3, w4⟩⟩
      · rw [c1, d2, bd_some, if_neg (by decide)]
      · rw [m130, e3, bd_some]
        unfold f_X12_factor_150 f_X12_factor_164
        rw [g8, if_pos rfl, if_pos rfl]
        exact w1
  · have e2 : f_X12_among 2 μ = some (-1, μ) := by
      rcases m_among lw2 h5 h7 (by omega) with ⟨j, j1, j2, j3, j4, j5⟩ | ⟨j1, j2⟩
      · exact absurd ⟨j2, j3⟩ (i1 j j1)
      · exact j2
    obtain ⟨μ', w1, w2, w3, w4⟩ := wrong (-1) 0 (sI μ 0 7 1) p (by simp (disch := omega) only [gI_ss, gI_sk, gI_sc]; exact h7)
    refine ⟨0, σ, μ', ?_, ?_, Or.inr ⟨rfl, Fc_refl _ _ _, Fm_o (o0_trans (o0_7 _ _) w2), p, c, h11, Nat.le_refl _, by omega, h3, h4, w3, w4⟩⟩
    · unfold f_X6_readTest
      rw [i2, bd_some, if_neg (by decide)]
    · unfold mTest
      rw [e2, bd_some, if_pos rfl]
      unfold f_X12_factor_130
      rw [show iz (1 : Int32) = true from rfl, gd_true, lt_eq, gI_ss, if_neg (by decide)]
      unfold f_X12_factor_150 f_X12_factor_164
      rw [gI_ss, if_neg (by decide)]
      exact w1
end JOINT
