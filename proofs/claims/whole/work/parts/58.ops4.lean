/-! MEAN, BEST, DRESS -/
def cFx (M : Nat) (σ σ' : Mem) : Prop := (∀ c, c < 48 → (c < 41 ∨ 45 < c) → gI σ' c = gI σ c) ∧ ∀ j, j < M → gI σ' (mo j) = gI σ (mo j) ∧ ∀ i, 1 ≤ i → i ≤ 4 → gI σ' (mo j + i) = gI σ (mo j + i)
theorem cFx_refl (M : Nat) (σ : Mem) : cFx M σ σ := ⟨fun _ _ _ => rfl, fun _ _ => ⟨rfl, fun _ _ _ => rfl⟩⟩
theorem cFx_trans {M : Nat} {σ τ υ : Mem} (h1 : cFx M σ τ) (h2 : cFx M τ υ) : cFx M σ υ := ⟨fun c a b => (h2.1 c a b).trans (h1.1 c a b), fun j hj => ⟨(h2.2 j hj).1.trans (h1.2 j hj).1, fun i a b => ((h2.2 j hj).2 i a b).trans ((h1.2 j hj).2 i a b)⟩⟩
theorem cFx_p {M : Nat} {σ τ : Mem} (h : cFp M σ τ) : cFx M σ τ := ⟨h.1, h.2.1⟩
theorem cFx_r {M : Nat} {σ τ : Mem} (h : cFr M σ τ) : cFx M σ τ := ⟨fun c a b => h.1 c a (by omega) (by omega), h.2⟩
theorem cFx_41 {M : Nat} {σ τ : Mem} (h : ∀ c, c ≠ 41 → gI τ c = gI σ c) : cFx M σ τ := ⟨fun c _ b => h c (by omega), fun j _ => ⟨h _ (by unfold mo; omega), fun i _ _ => h _ (by unfold mo; omega)⟩⟩
def mFx (μ μ' : Mem) : Prop := (∀ c, (c = 1 ∨ c = 2 ∨ c = 14 ∨ c = 15) → gI μ' c = gI μ c) ∧ ∀ j, (j < 11 ∨ 15 < j) → j ≠ 26 → (j < 27 ∨ 32 < j) → gI μ' 0 j = gI μ 0 j
theorem mFx_refl (μ : Mem) : mFx μ μ := ⟨fun _ _ => rfl, fun _ _ _ _ => rfl⟩
theorem mFx_trans {μ τ υ : Mem} (h1 : mFx μ τ) (h2 : mFx τ υ) : mFx μ υ := ⟨fun c a => (h2.1 c a).trans (h1.1 c a), fun j a b c => (h2.2 j a b c).trans (h1.2 j a b c)⟩
theorem mFx_r {J : Nat} {μ τ : Mem} (h : mFr J μ τ) : mFx μ τ := ⟨fun c hc => h.1 c (by omega), fun j a _ _ => h.2.1 j a⟩
/-- a mean as the class's loops ask for it -/
def cMF (n w h d dz : Int32) (σ : Mem) : Option (Int32 × Mem) := bv (f_X5_startMean n dz (0 : Int32) σ) fun σ_2 => bd (f_X5_meanFrom (0 : Int32) w w h d σ_2) fun r_4 σ_5 => some (r_4, σ_5)
theorem mf_at {α : Type} {n w h d dz r : Int32} {σ τ : Mem} (q : cMF n w h d dz σ = some (r, τ)) (k : Int32 → Mem → Option α) : (bv (f_X5_startMean n dz (0 : Int32) σ) fun σ_2 => bd (f_X5_meanFrom (0 : Int32) w w h d σ_2) k) = k r τ := by
  unfold cMF at q
  cases e1 : f_X5_startMean n dz (0 : Int32) σ with
  | none =>
    rw [e1] at q
    cases q
  | some a =>
    rw [e1, bv_some] at q
    rw [bv_some]
    cases e2 : f_X5_meanFrom (0 : Int32) w w h d a with
    | none =>
      rw [e2] at q
      cases q
    | some b =>
      obtain ⟨b1, b2⟩ := b
      rw [e2, bd_some] at q
      rw [bd_some]
      obtain ⟨q1, q2⟩ := Prod.mk.inj (Option.some.inj q)
      rw [q1, q2]
section OPS4
variable {M : Nat} {Am : Nat → Mil} {k J : Nat} {ch : Nat → Nat → Nat}
/-- a mean of a kind told by its number -/
def fK (A : Mil) (ch : Nat → Nat → Nat) (kd v : Nat) (dz : Int32) (n w h d : Nat) : Nat := mMe A ch (stK A ch kd v (fun _ => 0)) dz false n 0 w w h d
theorem fK_le {A : Mil} (b : ∀ kd sg, A.1 kd sg ≤ 990) {ch : Nat → Nat → Nat} (hc : chO ch) (kd v : Nat) (dz : Int32) {n w : Nat} (hn : n ≤ 6) (hw : w < 6) (h d : Nat) : fK A ch kd v dz n w h d < 10000000 := by
  have := mMe_le b hc (stK A ch kd v (fun _ => 0)) dz false n 0 w w h d hw
  unfold fK
  generalize mMe A ch (stK A ch kd v (fun _ => 0)) dz false n 0 w w h d = z at *
  omega
theorem c_kind {σ : Mem} (hQ : cI0 M Am k J ch σ) {kd v n w h d K : Nat} {dz : Int32} (hkd : kd < 6) (hv : v < 8) (hn0 : 0 < n) (hn : n ≤ 6) (hw : w < 6) (hh : h < 10) (hd : d < 10) (hK : K < 5000) (h5 : gI σ 41 5 = nI K) (h45 : ∀ i, i < 21600 → le_ (gI σ 45 i) K) :
    ∃ V σ', f_X5_followKind (nI kd) (nI v) σ = some V ∧ cMF (nI n) (nI w) (nI h) (nI d) dz V = some (nI (fK (Am k) ch kd v dz n w h d), σ') ∧ cFx M σ σ' ∧ cI0 M Am k J ch σ' ∧ gI σ' 41 5 = nI (K + 1) ∧ (∀ i, i < 21600 → le_ (gI σ' 45 i) (K + 1)) ∧ cSt kd v (fun _ => 0) σ' := by
  obtain ⟨V, hV⟩ : ∃ V, V = sI (sI σ 41 10 (nI kd)) 41 11 (nI v) := ⟨_, rfl⟩
  have r : ∀ c, c ≠ 41 → gI V c = gI σ c := fun c hc => by rw [hV]; simp (disch := omega) only [gIr, gIrL]
  have hS : cSt kd v (fun _ => 0) V := ⟨by omega, hv, fun _ => (by decide : (0 : Nat) < 8), by rw [hV]; simp (disch := omega) only [gI_ss, gI_sk, gI_sc], by rw [hV]; simp (disch := omega) only [gI_ss, gI_sk, gI_sc], fun e => by omega⟩
  obtain ⟨σ', s1, s2, s3, s4, s5, s6⟩ := c_mean_ (aw := false) (p3 := 0) (dz := dz) rfl (cI0_41 hQ r (by rw [hV]; simp (disch := omega) only [gI_ss, gI_sk, gI_sc]) (by rw [hV]; simp (disch := omega) only [gI_ss, gI_sk, gI_sc]) (by rw [hV]; simp (disch := omega) only [gI_ss, gI_sk, gI_sc])) hS hn0 hn hw hh hd hK (by rw [hV]; simp (disch := omega) only [gI_ss, gI_sk, gI_sc]; exact h5) (fun i hi => by rw [r 45 (by omega)]; exact h45 i hi)
  refine ⟨V, σ', ?_, s1, cFx_trans (cFx_41 r) (cFx_p s2), s3, s5, s6, s4⟩
  unfold f_X5_followKind
  rw [lt_eq, lt_eq, ← hV]
theorem c_again {σ : Mem} (hQ : cI0 M Am k J ch σ) {kd v n w h d K : Nat} {dz : Int32} (hS : cSt kd v (fun _ => 0) σ) (hn0 : 0 < n) (hn : n ≤ 6) (hw : w < 6) (hh : h < 10) (hd : d < 10) (hK : K < 5000) (h5 : gI σ 41 5 = nI K) (h45 : ∀ i, i < 21600 → le_ (gI σ 45 i) K) :
    ∃ σ', cMF (nI n) (nI w) (nI h) (nI d) dz σ = some (nI (fK (Am k) ch kd v dz n w h d), σ') ∧ cFx M σ σ' ∧ cI0 M Am k J ch σ' ∧ gI σ' 41 5 = nI (K + 1) ∧ (∀ i, i < 21600 → le_ (gI σ' 45 i) (K + 1)) ∧ cSt kd v (fun _ => 0) σ' := by
  obtain ⟨σ', s1, s2, s3, s4, s5, s6⟩ := c_mean_ (aw := false) (p3 := 0) (dz := dz) rfl hQ hS hn0 hn hw hh hd hK h5 h45
  exact ⟨σ', s1, cFx_p s2, s3, s5, s6, s4⟩
theorem m_kind {A : Mil} {μ : Mem} (hQ : mI0 k A J ch μ) {kd v n w h d K : Nat} {dz : Int32} (hkd : kd < 6) (hv : v < 8) (hn0 : 0 < n) (hn : n ≤ 6) (hw : w < 6) (hh : h < 10) (hd : d < 10) (hK : K < 5000) (h26 : gI μ 0 26 = nI K) (h11 : ∀ i, i < 21600 → le_ (gI μ 11 i) K) (h7 : gI μ 1 7 = nI h) (h8 : gI μ 1 8 = nI d) :
    ∃ μ', f_X12_meanBy (nI kd) (nI v) (-1) (nI n) (nI w) dz 0 μ = some (lN (fK A ch kd v dz n w h d), μ') ∧ mFx μ μ' ∧ mI0 k A J ch μ' ∧ gI μ' 0 26 = nI (K + 1) ∧ ∀ i, i < 21600 → le_ (gI μ' 11 i) (K + 1) := by
  obtain ⟨μ', s1, s2, s3, s4, s5, s6⟩ := m_meanBy (aw := false) (p7 := 0) (dz := dz) (kd := kd) (v := v) (row := fun _ => 0) (ru := -1) rfl hQ ⟨by omega, hv, fun _ => (by decide : (0 : Nat) < 8), fun e => by omega⟩ hn0 hn hw hh hd hK h26 h11 h7 h8
  exact ⟨μ', s1, ⟨s2, s3⟩, s4, s5, s6⟩
theorem c_looking {σ : Mem} (hQ : cI0 M Am k J ch σ) {n w h d K : Nat} (hn0 : 0 < n) (hn : n ≤ 6) (hw : w < 6) (hh : h < 10) (hd : d < 10) (hK : K < 4000) (h5 : gI σ 41 5 = nI K) (h45 : ∀ i, i < 21600 → le_ (gI σ 45 i) K) :
    ∃ σ', f_X5_looking (nI n) (nI w) (nI h) (nI d) σ = some (nI (bBe (Am k) ch n w h d) - nI (mx8 (fun st => fK (Am k) ch 1 st (-1) n w h d) 8), σ') ∧ cFx M σ σ' ∧ cI0 M Am k J ch σ' ∧ gI σ' 41 5 = nI (K + 8) ∧ ∀ i, i < 21600 → le_ (gI σ' 45 i) (K + 8) := by
  obtain ⟨f, hf⟩ : ∃ f : Nat → Nat, f = fun st => fK (Am k) ch 1 st (-1) n w h d := ⟨_, rfl⟩
  rw [← hf]
  have hfb : ∀ st, f st < 10000000 := fun st => by
    rw [hf]
    exact fK_le (hQ.2.1 k hQ.1.2.1).1 hQ.1.2.2.2 1 st (-1) hn hw h d
  have hxb : ∀ i, mx8 f i < 10000000 := fun i => by
    have := mx8_le (f := f) (B := 9999999) (n := i) (fun j _ => by have := hfb j; omega)
    omega
  have key : ∀ m i fu : Nat, ∀ τ : Mem, i + m = 8 → m < fu → cI0 M Am k J ch τ → gI τ 41 5 = nI (K + i) → (∀ x, x < 21600 → le_ (gI τ 45 x) (K + i)) → ∃ σ', fx7 f_X5_looking_6 fu (nI n) (nI w) (nI h) (nI d) (nI (mx8 f i)) (nI i) τ = some (nI (bBe (Am k) ch n w h d) - nI (mx8 f 8), σ') ∧ cFx M τ σ' ∧ cI0 M Am k J ch σ' ∧ gI σ' 41 5 = nI (K + 8) ∧ ∀ i, i < 21600 → le_ (gI σ' 45 i) (K + 8) := by
    intro m
    induction m with
    | zero =>
      intro i fu τ hi hfu ht g5 g45
      obtain ⟨fu, rfl⟩ : ∃ z, fu = z + 1 := ⟨fu - 1, by omega⟩
      have hi : i = 8 := by omega
      subst hi
      obtain ⟨σ', s1, s2, s3⟩ := c_bestFrom ht hn hw hh hd
      have hb := bC_le (ht.2.1 k ht.1.2.1).1 ht.1.2.2.2 hn hw h d
      refine ⟨σ', ?_, cFx_r s2, s3, by rw [s2.1 41 (by omega) (by omega) (by omega)]; exact g5, fun x hx => by rw [s2.1 45 (by omega) (by omega) (by omega)]; exact g45 x hx⟩
      show f_X5_looking_6 _ _ _ _ _ _ _ _ = _
      unfold f_X5_looking_6
      rw [if_pos (by decide), s1, bd_some, show (8 : Int32) = nI 8 from rfl, nIdiv (by omega) (by omega) (by omega), bC_div]
    | succ m ih =>
      intro i fu τ hi hfu ht g5 g45
      obtain ⟨fu, rfl⟩ : ∃ z, fu = z + 1 := ⟨fu - 1, by omega⟩
      obtain ⟨V, τ', s0, s1, s2, s3, s4, s5, -⟩ := c_kind ht (kd := 1) (v := i) (dz := -1) (by omega) (by omega) hn0 hn hw hh hd (by omega) g5 g45
      have s0 : f_X5_followKind (1 : Int32) (nI i) τ = some V := s0
      have s1 : cMF (nI n) (nI w) (nI h) (nI d) (-1 : Int32) V = some (nI (f i), τ') := by rw [hf]; exact s1
      obtain ⟨σ', u1, u2, u3⟩ := ih (i + 1) fu τ' (by omega) (by omega) s3 s4 s5
      refine ⟨σ', ?_, cFx_trans s2 u2, u3⟩
      have g1 := hfb i
      have g2 := hxb i
      have e2 : mx8 f (i + 1) = max (mx8 f i) (f i) := rfl
      rw [← u1, e2]
      show f_X5_looking_6 (fx7 f_X5_looking_6 fu) _ _ _ _ _ _ _ = _
      generalize fx7 f_X5_looking_6 fu = kk
      unfold f_X5_looking_6
      rw [if_neg (show ¬ (8 : Int32) ≤ nI i from nI_ge (a := i) (b := 8) (by omega) (by omega))]
      rw [s0, bv_some, mf_at s1, imx_nI (by omega) (by omega), nI_1]
      rfl
  have hF : 8 < FU := by decide
  exact key 8 0 FU σ (by omega) hF hQ h5 h45
theorem m_look {A : Mil} {μ : Mem} (hQ : mI0 k A J ch μ) {n w h d K x : Nat} (hn0 : 0 < n) (hn : n ≤ 6) (hw : w < 6) (hh : h < 10) (hd : d < 10) (hK : K < 4000) (h26 : gI μ 0 26 = nI K) (h11 : ∀ i, i < 21600 → le_ (gI μ 11 i) K) (h7 : gI μ 1 7 = nI h) (h8 : gI μ 1 8 = nI d) :
    ∃ μ', fx7 f_X12_best_109 FU (nI n) (nI w) (2 : Int32) (lN x) (0 : Int64) (0 : Int32) μ = some (lN x - lN (mx8 (fun st => fK A ch 1 st (-1) n w h d) 8), μ') ∧ mFx μ μ' ∧ mI0 k A J ch μ' ∧ gI μ' 0 26 = nI (K + 8) ∧ ∀ i, i < 21600 → le_ (gI μ' 11 i) (K + 8) := by
  obtain ⟨f, hf⟩ : ∃ f : Nat → Nat, f = fun st => fK A ch 1 st (-1) n w h d := ⟨_, rfl⟩
  rw [← hf]
  have hfb : ∀ st, f st < 10000000 := fun st => by
    rw [hf]
    exact fK_le hQ.2.1.1 hQ.1.2.2 1 st (-1) hn hw h d
  have hxb : ∀ i, mx8 f i < 10000000 := fun i => by
    have := mx8_le (f := f) (B := 9999999) (n := i) (fun j _ => by have := hfb j; omega)
    omega
  have key : ∀ m i fu : Nat, ∀ τ : Mem, i + m = 8 → m < fu → mI0 k A J ch τ → gI τ 1 7 = nI h → gI τ 1 8 = nI d → gI τ 0 26 = nI (K + i) → (∀ x, x < 21600 → le_ (gI τ 11 x) (K + i)) → ∃ μ', fx7 f_X12_best_109 fu (nI n) (nI w) (2 : Int32) (lN x) (lN (mx8 f i)) (nI i) τ = some (lN x - lN (mx8 f 8), μ') ∧ mFx τ μ' ∧ mI0 k A J ch μ' ∧ gI μ' 0 26 = nI (K + 8) ∧ ∀ i, i < 21600 → le_ (gI μ' 11 i) (K + 8) := by
    intro m
    induction m with
    | zero =>
      intro i fu τ hi hfu ht g7 g8 g26 g11
      obtain ⟨fu, rfl⟩ : ∃ z, fu = z + 1 := ⟨fu - 1, by omega⟩
      have hi : i = 8 := by omega
      subst hi
      refine ⟨τ, ?_, mFx_refl _, ht, g26, g11⟩
      show f_X12_best_109 _ _ _ _ _ _ _ _ = _
      unfold f_X12_best_109
      exact if_pos (by decide)
    | succ m ih =>
      intro i fu τ hi hfu ht g7 g8 g26 g11
      obtain ⟨fu, rfl⟩ : ∃ z, fu = z + 1 := ⟨fu - 1, by omega⟩
      obtain ⟨τ', s1, s2, s3, s4, s5⟩ := m_kind ht (kd := 1) (v := i) (dz := -1) (by omega) (by omega) hn0 hn hw hh hd (by omega) g26 g11 g7 g8
      have s1 : f_X12_meanBy (1 : Int32) (nI i) (-1 : Int32) (nI n) (nI w) (-1 : Int32) (0 : Int32) τ = some (lN (f i), τ') := by rw [hf]; exact s1
      obtain ⟨μ', u1, u2, u3⟩ := ih (i + 1) fu τ' (by omega) (by omega) s3 (by rw [s2.1 1 (by omega)]; exact g7) (by rw [s2.1 1 (by omega)]; exact g8) s4 s5
      refine ⟨μ', ?_, mFx_trans s2 u2, u3⟩
      have g1 := hfb i
      have g2 := hxb i
      have e2 : mx8 f (i + 1) = max (mx8 f i) (f i) := rfl
      rw [← u1, e2]
      show f_X12_best_109 (fx7 f_X12_best_109 fu) _ _ _ _ _ _ _ = _
      generalize fx7 f_X12_best_109 fu = kk
      unfold f_X12_best_109 f_X12_best_150
      rw [if_neg (show ¬ (8 : Int32) ≤ nI i from nI_ge (a := i) (b := 8) (by omega) (by omega)), if_pos rfl, s1, bd_some]
      simp only [lg_le (show f i < 2 ^ 31 by omega) (show mx8 f i < 2 ^ 31 by omega)]
      by_cases qq : f i ≤ mx8 f i
      · rw [if_pos qq, Nat.max_eq_left qq, lt_eq, nI_1]
      · rw [if_neg qq, Nat.max_eq_right (by omega), lt_eq, nI_1]
  have hF : 8 < FU := by decide
  exact key 8 0 FU μ (by omega) hF hQ h7 h8 h26 h11
/-- where dressing is best: the greatest, and the hour -/
def dM (v0 : Nat) (f : Nat → Nat) : Nat → Nat
  | 0 => v0
  | i + 1 => if f i ≤ dM v0 f i then dM v0 f i else f i
def dW (v0 : Nat) (f : Nat → Nat) : Nat → Int32
  | 0 => -5
  | i + 1 => if f i ≤ dM v0 f i then dW v0 f i else nI i
theorem dM_lt {v0 : Nat} {f : Nat → Nat} {B : Nat} (h0 : v0 < B) (h : ∀ i, f i < B) : ∀ i, dM v0 f i < B
  | 0 => h0
  | i + 1 => by
    have := dM_lt h0 h i
    have := h i
    unfold dM
    split <;> assumption
theorem c_dressing {σ : Mem} (hQ : cI0 M Am k J ch σ) {n w h d K : Nat} (hn0 : 0 < n) (hn : n ≤ 4) (hw : w < 6) (hh : h < 10) (hd : d < 10) (hK : K < 4000) (h5 : gI σ 41 5 = nI K) (h45 : ∀ i, i < 21600 → le_ (gI σ 45 i) K) :
    ∃ σ', f_X5_dressing (nI n) (nI w) (nI h) (nI d) σ = some (dW (fK (Am k) ch 3 0 (-1) n w h d) (fun at_ => fK (Am k) ch 3 0 (nI at_) n w h d) n, σ') ∧ cFx M σ σ' ∧ cI0 M Am k J ch σ' ∧ gI σ' 41 5 = nI (K + 1 + n) ∧ ∀ i, i < 21600 → le_ (gI σ' 45 i) (K + 1 + n) := by
  obtain ⟨f, hf⟩ : ∃ f : Nat → Nat, f = fun at_ => fK (Am k) ch 3 0 (nI at_) n w h d := ⟨_, rfl⟩
  obtain ⟨v0, hv0⟩ : ∃ v0, v0 = fK (Am k) ch 3 0 (-1) n w h d := ⟨_, rfl⟩
  rw [← hf, ← hv0]
  have b := (hQ.2.1 k hQ.1.2.1).1
  have hch := hQ.1.2.2.2
  have hfb : ∀ st, f st < 10000000 := fun st => by
    rw [hf]
    exact fK_le b hch 3 0 _ (by omega) hw h d
  have hvb : v0 < 10000000 := by
    rw [hv0]
    exact fK_le b hch 3 0 _ (by omega) hw h d
  have hdb := dM_lt hvb hfb
  have key : ∀ m i fu : Nat, ∀ τ : Mem, i + m = n → m < fu → cI0 M Am k J ch τ → cSt 3 0 (fun _ => 0) τ → gI τ 41 5 = nI (K + 1 + i) → (∀ x, x < 21600 → le_ (gI τ 45 x) (K + 1 + i)) → ∃ σ', fx8 f_X5_dressing_32 fu (nI n) (nI w) (nI h) (nI d) (nI (dM v0 f i)) (dW v0 f i) (nI i) τ = some (dW v0 f n, σ') ∧ cFx M τ σ' ∧ cI0 M Am k J ch σ' ∧ gI σ' 41 5 = nI (K + 1 + n) ∧ ∀ i, i < 21600 → le_ (gI σ' 45 i) (K + 1 + n) := by
    intro m
    induction m with
    | zero =>
      intro i fu τ hi hfu ht hs g5 g45
      obtain ⟨fu, rfl⟩ : ∃ z, fu = z + 1 := ⟨fu - 1, by omega⟩
      have hi : i = n := by omega
      subst hi
      refine ⟨τ, ?_, cFx_refl _ _, ht, g5, g45⟩
      show f_X5_dressing_32 _ _ _ _ _ _ _ _ _ = _
      unfold f_X5_dressing_32
      exact if_pos (nI_le (Nat.le_refl _) (by omega))
    | succ m ih =>
      intro i fu τ hi hfu ht hs g5 g45
      obtain ⟨fu, rfl⟩ : ∃ z, fu = z + 1 := ⟨fu - 1, by omega⟩
      obtain ⟨τ', s1, s2, s3, s4, s5, s6⟩ := c_again ht (dz := nI i) hs hn0 (by omega) hw hh hd (by omega) g5 g45
      have s1 : cMF (nI n) (nI w) (nI h) (nI d) (nI i) τ = some (nI (f i), τ') := by rw [hf]; exact s1
      obtain ⟨σ', u1, u2, u3⟩ := ih (i + 1) fu τ' (by omega) (by omega) s3 s6 s4 s5
      refine ⟨σ', ?_, cFx_trans s2 u2, u3⟩
      have g1 := hfb i
      have g2 := hdb i
      have e2 : dM v0 f (i + 1) = if f i ≤ dM v0 f i then dM v0 f i else f i := rfl
      have e3 : dW v0 f (i + 1) = if f i ≤ dM v0 f i then dW v0 f i else nI i := rfl
      rw [← u1, e2, e3]
      show f_X5_dressing_32 (fx8 f_X5_dressing_32 fu) _ _ _ _ _ _ _ _ = _
      generalize fx8 f_X5_dressing_32 fu = kk
      unfold f_X5_dressing_32 f_X5_dressing_73
      rw [if_neg (nI_ge (by omega) (by omega)), mf_at s1]
      by_cases qq : f i ≤ dM v0 f i
      · rw [if_pos (nI_le qq (by omega)), if_pos qq, if_pos qq, lt_eq, nI_1]
      · rw [if_neg (nI_ge (by omega) (by omega)), if_neg qq, if_neg qq, lt_eq, nI_1]
  obtain ⟨V, τ, s0, s1, s2, s3, s4, s5, s6⟩ := c_kind hQ (kd := 3) (v := 0) (dz := -1) (by omega) (by omega) hn0 (by omega) hw hh hd (by omega) h5 h45
  have hF : n < FU := Nat.lt_of_le_of_lt hn (by decide)
  obtain ⟨σ', u1, u2, u3⟩ := key n 0 FU τ (by omega) hF s3 s6 s4 s5
  refine ⟨σ', ?_, cFx_trans s2 u2, u3⟩
  have s0 : f_X5_followKind (3 : Int32) (0 : Int32) σ = some V := s0
  have s1 : cMF (nI n) (nI w) (nI h) (nI d) (-1 : Int32) V = some (nI v0, τ) := by rw [hv0]; exact s1
  unfold f_X5_dressing
  rw [s0, bv_some, mf_at s1]
  exact u1
theorem m_dress {A : Mil} {μ : Mem} (hQ : mI0 k A J ch μ) {n w h d K : Nat} (hn0 : 0 < n) (hn : n ≤ 4) (hw : w < 6) (hh : h < 10) (hd : d < 10) (hK : K < 4000) (h26 : gI μ 0 26 = nI K) (h11 : ∀ i, i < 21600 → le_ (gI μ 11 i) K) (h7 : gI μ 1 7 = nI h) (h8 : gI μ 1 8 = nI d) :
    ∃ μ', (bd (f_X12_meanBy (3 : Int32) (0 : Int32) (-1 : Int32) (nI n) (nI w) (-1 : Int32) (0 : Int32) μ) fun r_17 σ_18 => fx6 (f_X12_dress_68) FU (nI n) (nI w) r_17 (-5 : Int32) (0 : Int32) σ_18) = some (dW (fK A ch 3 0 (-1) n w h d) (fun at_ => fK A ch 3 0 (nI at_) n w h d) n, μ') ∧ mFx μ μ' ∧ mI0 k A J ch μ' ∧ gI μ' 0 26 = nI (K + 1 + n) ∧ ∀ i, i < 21600 → le_ (gI μ' 11 i) (K + 1 + n) := by
  obtain ⟨f, hf⟩ : ∃ f : Nat → Nat, f = fun at_ => fK A ch 3 0 (nI at_) n w h d := ⟨_, rfl⟩
  obtain ⟨v0, hv0⟩ : ∃ v0, v0 = fK A ch 3 0 (-1) n w h d := ⟨_, rfl⟩
  rw [← hf, ← hv0]
  have b := hQ.2.1.1
  have hch := hQ.1.2.2
  have hfb : ∀ st, f st < 10000000 := fun st => by
    rw [hf]
    exact fK_le b hch 3 0 _ (by omega) hw h d
  have hvb : v0 < 10000000 := by
    rw [hv0]
    exact fK_le b hch 3 0 _ (by omega) hw h d
  have hdb := dM_lt hvb hfb
  have key : ∀ m i fu : Nat, ∀ τ : Mem, i + m = n → m < fu → mI0 k A J ch τ → gI τ 1 7 = nI h → gI τ 1 8 = nI d → gI τ 0 26 = nI (K + 1 + i) → (∀ x, x < 21600 → le_ (gI τ 11 x) (K + 1 + i)) → ∃ μ', fx6 f_X12_dress_68 fu (nI n) (nI w) (lN (dM v0 f i)) (dW v0 f i) (nI i) τ = some (dW v0 f n, μ') ∧ mFx τ μ' ∧ mI0 k A J ch μ' ∧ gI μ' 0 26 = nI (K + 1 + n) ∧ ∀ i, i < 21600 → le_ (gI μ' 11 i) (K + 1 + n) := by
    intro m
    induction m with
    | zero =>
      intro i fu τ hi hfu ht g7 g8 g26 g11
      obtain ⟨fu, rfl⟩ : ∃ z, fu = z + 1 := ⟨fu - 1, by omega⟩
      have hi : i = n := by omega
      subst hi
      refine ⟨τ, ?_, mFx_refl _, ht, g26, g11⟩
      show f_X12_dress_68 _ _ _ _ _ _ _ = _
      unfold f_X12_dress_68
      exact if_pos (nI_le (Nat.le_refl _) (by omega))
    | succ m ih =>
      intro i fu τ hi hfu ht g7 g8 g26 g11
      obtain ⟨fu, rfl⟩ : ∃ z, fu = z + 1 := ⟨fu - 1, by omega⟩
      obtain ⟨τ', s1, s2, s3, s4, s5⟩ := m_kind ht (kd := 3) (v := 0) (dz := nI i) (by omega) (by omega) hn0 (by omega) hw hh hd (by omega) g26 g11 g7 g8
      have s1 : f_X12_meanBy (3 : Int32) (0 : Int32) (-1 : Int32) (nI n) (nI w) (nI i) (0 : Int32) τ = some (lN (f i), τ') := by rw [hf]; exact s1
      obtain ⟨μ', u1, u2, u3⟩ := ih (i + 1) fu τ' (by omega) (by omega) s3 (by rw [s2.1 1 (by omega)]; exact g7) (by rw [s2.1 1 (by omega)]; exact g8) s4 s5
      refine ⟨μ', ?_, mFx_trans s2 u2, u3⟩
      have g1 := hfb i
      have g2 := hdb i
      have e2 : dM v0 f (i + 1) = if f i ≤ dM v0 f i then dM v0 f i else f i := rfl
      have e3 : dW v0 f (i + 1) = if f i ≤ dM v0 f i then dW v0 f i else nI i := rfl
      rw [← u1, e2, e3]
      show f_X12_dress_68 (fx6 f_X12_dress_68 fu) _ _ _ _ _ _ = _
      generalize fx6 f_X12_dress_68 fu = kk
      unfold f_X12_dress_68 f_X12_dress_102 f_X12_dress_117
      rw [if_neg (nI_ge (by omega) (by omega)), s1, bd_some]
      simp only [lg_le (show f i < 2 ^ 31 by omega) (show dM v0 f i < 2 ^ 31 by omega)]
      by_cases qq : f i ≤ dM v0 f i
      · rw [if_pos qq, if_pos qq, if_pos qq, if_pos qq, lt_eq, nI_1]
      · rw [if_neg qq, if_neg qq, if_neg qq, if_neg qq, lt_eq, nI_1]
  obtain ⟨τ, s1, s2, s3, s4, s5⟩ := m_kind hQ (kd := 3) (v := 0) (dz := -1) (by omega) (by omega) hn0 (by omega) hw hh hd (by omega) h26 h11 h7 h8
  have s1 : f_X12_meanBy (3 : Int32) (0 : Int32) (-1 : Int32) (nI n) (nI w) (-1 : Int32) (0 : Int32) μ = some (lN v0, τ) := by rw [hv0]; exact s1
  have hF : n < FU := Nat.lt_of_le_of_lt hn (by decide)
  obtain ⟨μ', u1, u2, u3⟩ := key n 0 FU τ (by omega) hF s3 (by rw [s2.1 1 (by omega)]; exact h7) (by rw [s2.1 1 (by omega)]; exact h8) s4 s5
  refine ⟨μ', ?_, mFx_trans s2 u2, u3⟩
  rw [s1, bd_some]
  exact u1
end OPS4
