/-! the model's table, read -/
def rTb (A : Nat → Mil) (μ : Mem) : Prop := ∀ p, p < 3 → ∀ j, j < 24 → gI μ 14 (24 * p + j) = tR (A p) (j / 4) (j % 4)
theorem m_mealAt {A : Nat → Mil} {μ : Mem} (h : rTb A μ) {p w c : Nat} (hp : p < 3) (hw : w < 6) (hc : c < 4) : f_X12_mealAt (nI p) (nI w) (nI c) μ = some (tR (A p) w c, μ) := by
  have e := h p hp (4 * w + c) (by omega)
  rw [show 24 * p + (4 * w + c) = 24 * p + 4 * w + c by omega, show (4 * w + c) / 4 = w by omega, show (4 * w + c) % 4 = c by omega] at e
  unfold f_X12_mealAt
  simp (disch := omega) only [lt_eq, bd_some, bv_some, li, pk_mul, nI_add, nIsub, nIlt, nIle, nIeq, nIdiv, nIrem, neg_, pos_, ib_nI, gd_true, nI_tn, gI_ss, gI_sk, gI_sc, ↓reduceIte, nIn1b, e]
theorem m_windAt {p w ways : Nat} (hp : p < 3) (hw : w < 6) (hy : ways < 64) (μ : Mem) : f_X12_windAt (nI p) (nI w) (nI ways) μ = some (nI (wdA w ways p), μ) := by
  have e : ∀ s : Nat, s < 100 → f_X12_windAt_30 (nI w) (nI s) μ = some (nI (w - s), μ) := fun s hs => by
    unfold f_X12_windAt_30
    by_cases q : w ≤ s
    · rw [if_pos (nI_le q (by omega)), show w - s = 0 by omega]
      rfl
    · rw [if_neg (nI_ge (by omega) (by omega)), nIsub (by omega)]
  unfold f_X12_windAt wdA
  rcases (show p = 0 ∨ p = 1 ∨ p = 2 by omega) with rfl | rfl | rfl
  · rw [if_pos (by rfl), if_pos rfl]
    exact e 0 (by omega)
  · rw [if_neg (by decide), if_pos (by rfl), if_neg (by decide), if_pos rfl, show (16 : Int32) = nI 16 from rfl, nIdiv (by omega) (by omega) (by omega)]
    exact e _ (by omega)
  · rw [if_neg (by decide), if_neg (by decide), if_neg (by decide), if_neg (by decide), show (16 : Int32) = nI 16 from rfl, show (4 : Int32) = nI 4 from rfl, nIdiv (by omega) (by omega) (by omega), nIdiv (by omega) (by omega) (by omega), nIrem (by omega) (by omega) (by omega), nI_add]
    exact e _ (by omega)
theorem m_clothAt {p ways : Nat} (hp : p < 3) (hy : ways < 64) (μ : Mem) : f_X12_clothAt (nI p) (nI ways) μ = some (nI (clA ways p), μ) := by
  unfold f_X12_clothAt clA
  rcases (show p = 0 ∨ p = 1 ∨ p = 2 by omega) with rfl | rfl | rfl
  · rw [if_pos (by rfl), if_pos rfl, show (16 : Int32) = nI 16 from rfl, nIdiv (by omega) (by omega) (by omega)]
  · rw [if_neg (by decide), if_pos (by rfl), if_neg (by decide), if_pos rfl, show (4 : Int32) = nI 4 from rfl, nIdiv (by omega) (by omega) (by omega), nIrem (by omega) (by omega) (by omega)]
  · rw [if_neg (by decide), if_neg (by decide), if_neg (by decide), if_neg (by decide), show (4 : Int32) = nI 4 from rfl, nIrem (by omega) (by omega) (by omega)]
theorem wdA_lt {w ways p : Nat} (hw : w < 6) : wdA w ways p < 6 := by
  unfold wdA
  omega
theorem clA_lt {ways p : Nat} (hy : ways < 64) : clA ways p < 4 := by
  unfold clA
  split
  · omega
  · split <;> omega
theorem m_allMeal {A : Nat → Mil} {μ : Mem} (h : rTb A μ) {w ways : Nat} (hw : w < 6) (hy : ways < 64) : f_X12_allMeal (nI w) (nI ways) μ = some (aR A w ways, μ) := by
  have step : ∀ (fu p : Nat) (x : Int32), p < 3 → fx5 f_X12_allMeal_5 (fu + 1) (nI w) (nI ways) x (nI p) μ = fx5 f_X12_allMeal_5 fu (nI w) (nI ways) (x + tA A w ways p (clA ways p)) (nI (p + 1)) μ := by
    intro fu p x hp
    show f_X12_allMeal_5 (fx5 f_X12_allMeal_5 fu) _ _ _ _ _ = _
    generalize fx5 f_X12_allMeal_5 fu = kk
    unfold f_X12_allMeal_5
    rw [if_neg (show ¬ (3 : Int32) ≤ nI p from nI_ge (a := p) (b := 3) (by omega) (by omega)), m_windAt hp hw hy, bd_some, m_clothAt hp hy, bd_some, m_mealAt h hp (wdA_lt hw) (clA_lt hy), bd_some, lt_eq, lt_eq, nI_1]
    rfl
  have key : ∀ fu : Nat, fx5 f_X12_allMeal_5 (fu + 4) (nI w) (nI ways) 0 (nI 0) μ = some (aR A w ways, μ) := fun fu => by
    rw [step (fu + 3) 0 0 (by omega), step (fu + 2) 1 _ (by omega), step (fu + 1) 2 _ (by omega), Int32.zero_add]
    show f_X12_allMeal_5 (fx5 f_X12_allMeal_5 fu) _ _ _ _ _ = _
    generalize fx5 f_X12_allMeal_5 fu = kk
    unfold f_X12_allMeal_5
    exact if_pos (by decide)
  exact key 5996
theorem m_isRest {A : Nat → Mil} {μ : Mem} (h : rTb A μ) {w ways : Nat} (hw : w < 6) (hy : ways < 64) : f_X12_isRest (nI w) (nI ways) μ = some (bI (rB A w ways), μ) := by
  have inner : ∀ (k5 : Int32 → Int32 → Int32 → Int32 → Mem → Option (Int32 × Mem)) (p : Nat), p < 3 → ∀ m i fu : Nat, i + m = 4 → m < fu → fx7 (f_X12_isRest_24 k5) fu (nI w) (nI ways) (bI (rM A w ways (4 * p + i))) (nI p) (nI (wdA w ways p)) (nI i) μ = k5 (nI w) (nI ways) (bI (rM A w ways (4 * p + 4))) (nI (p + 1)) μ := by
    intro k5 p hp m
    induction m with
    | zero =>
      intro i fu hi hf
      obtain ⟨fu, rfl⟩ : ∃ z, fu = z + 1 := ⟨fu - 1, by omega⟩
      have hi : i = 4 := by omega
      subst hi
      show f_X12_isRest_24 k5 _ _ _ _ _ _ _ _ = _
      unfold f_X12_isRest_24
      rw [if_pos (by decide), lt_eq, nI_1]
    | succ m ih =>
      intro i fu hi hf
      obtain ⟨fu, rfl⟩ : ∃ z, fu = z + 1 := ⟨fu - 1, by omega⟩
      rw [← ih (i + 1) fu (by omega) (by omega)]
      have e : rM A w ways (4 * p + (i + 1)) = (rM A w ways (4 * p + i) && decide (tA A w ways ((4 * p + i) / 4) ((4 * p + i) % 4) ≤ tA A w ways ((4 * p + i) / 4) (clA ways ((4 * p + i) / 4)))) := rfl
      rw [show (4 * p + i) / 4 = p by omega, show (4 * p + i) % 4 = i by omega] at e
      rw [e]
      show f_X12_isRest_24 k5 (fx7 (f_X12_isRest_24 k5) fu) _ _ _ _ _ _ _ = _
      generalize fx7 (f_X12_isRest_24 k5) fu = kk
      unfold f_X12_isRest_24
      rw [if_neg (show ¬ (4 : Int32) ≤ nI i from nI_ge (a := i) (b := 4) (by omega) (by omega))]
      cases rM A w ways (4 * p + i) with
      | false =>
        rw [if_pos (by rfl), Bool.false_and]
        unfold f_X12_isRest_66 f_X12_isRest_67
        rw [lt_eq, nI_1]
        rfl
      | true =>
        rw [if_neg (by decide), Bool.true_and, m_mealAt h hp (wdA_lt hw) (show i < 4 by omega), bd_some, m_clothAt hp hy, bd_some, m_mealAt h hp (wdA_lt hw) (clA_lt hy), bd_some]
        have et : ∀ c, tA A w ways p c = tR (A p) (wdA w ways p) c := fun _ => rfl
        rw [et, et]
        by_cases q : tR (A p) (wdA w ways p) i ≤ tR (A p) (wdA w ways p) (clA ways p)
        · rw [if_neg (Int32.not_lt.mpr q), decide_eq_true q]
          unfold f_X12_isRest_67
          rw [lt_eq, nI_1]
          rfl
        · rw [if_pos (Int32.not_le.mp q), decide_eq_false q]
          unfold f_X12_isRest_66 f_X12_isRest_67
          rw [lt_eq, nI_1]
          rfl
  have step : ∀ (fu p : Nat), p < 3 → fx5 f_X12_isRest_5 (fu + 1) (nI w) (nI ways) (bI (rM A w ways (4 * p))) (nI p) μ = fx5 f_X12_isRest_5 fu (nI w) (nI ways) (bI (rM A w ways (4 * p + 4))) (nI (p + 1)) μ := by
    intro fu p hp
    have hF : 4 < FU := by decide
    rw [← inner (fx5 f_X12_isRest_5 fu) p hp 4 0 FU (by omega) hF]
    show f_X12_isRest_5 (fx5 f_X12_isRest_5 fu) _ _ _ _ _ = _
    generalize fx5 f_X12_isRest_5 fu = kk
    unfold f_X12_isRest_5
    rw [if_neg (show ¬ (3 : Int32) ≤ nI p from nI_ge (a := p) (b := 3) (by omega) (by omega)), m_windAt hp hw hy, bd_some]
    rfl
  have key : ∀ fu : Nat, fx5 f_X12_isRest_5 (fu + 4) (nI w) (nI ways) (bI (rM A w ways (4 * 0))) (nI 0) μ = some (bI (rB A w ways), μ) := fun fu => by
    have s0 := step (fu + 3) 0 (by omega)
    have s1 := step (fu + 2) 1 (by omega)
    have s2 := step (fu + 1) 2 (by omega)
    rw [← rM_12]
    refine s0.trans (s1.trans (s2.trans ?_))
    show f_X12_isRest_5 (fx5 f_X12_isRest_5 fu) _ _ _ _ _ = _
    generalize fx5 f_X12_isRest_5 fu = kk
    unfold f_X12_isRest_5
    rw [if_pos (by decide), bI_iz, gd_true]
  exact key 5996
theorem m_ridge {A : Nat → Mil} {μ : Mem} (h : rTb A μ) {w q : Nat} (hw : w < 6) (hq : q < 2) (h3 : (-3 : Int32) ≤ aR A w 0) : fx6 f_X12_ridge_77 FU (nI w) (nI q) (-1) (aR A w 0) 0 μ = some (if q = 0 then eC (fN (rB A w) 64) else if fN (rB A w) 64 = none then 1 else eA (aR A w) (fN (rB A w) 64) - mo2 (aR A w) (-3) 64, μ) := by
  have key : ∀ m i fu : Nat, i + m = 64 → m < fu → fx6 f_X12_ridge_77 fu (nI w) (nI q) (eM (fN (rB A w) i)) (mo2 (aR A w) (aR A w 0) i) (nI i) μ = some (if q = 0 then eC (fN (rB A w) 64) else if fN (rB A w) 64 = none then 1 else eA (aR A w) (fN (rB A w) 64) - mo2 (aR A w) (-3) 64, μ) := by
    intro m
    induction m with
    | zero =>
      intro i fu hi hf
      obtain ⟨fu, rfl⟩ : ∃ z, fu = z + 1 := ⟨fu - 1, by omega⟩
      have hi : i = 64 := by omega
      subst hi
      show f_X12_ridge_77 _ _ _ _ _ _ _ = _
      unfold f_X12_ridge_77
      rw [if_pos (by decide)]
      cases hf2 : fN (rB A w) 64 with
      | none =>
        by_cases q0 : q = 0
        · subst q0
          rfl
        · rw [if_neg (show ¬ nI q = 0 from nI_ne0 (by omega) (by omega)), if_neg q0]
          rfl
      | some k =>
        have hk := fN_lt _ _ _ hf2
        have n1 : ¬ eM (some k) = -1 := nI_m1 (by omega)
        by_cases q0 : q = 0
        · subst q0
          rw [if_pos (by rfl), if_neg n1, if_pos rfl]
          show some (((100 : Int32) * (nI k / (16 : Int32)) + (10 : Int32) * irm (nI k / (4 : Int32)) (4 : Int32)) + irm (nI k) (4 : Int32), μ) = _
          rw [show (100 : Int32) = nI 100 from rfl, show (16 : Int32) = nI 16 from rfl, show (10 : Int32) = nI 10 from rfl, show (4 : Int32) = nI 4 from rfl, nIdiv (by omega) (by omega) (by omega), nIdiv (by omega) (by omega) (by omega), nIrem (by omega) (by omega) (by omega), nIrem (by omega) (by omega) (by omega), pk_mul, pk_mul, nI_add, nI_add]
          rfl
        · rw [if_neg (show ¬ nI q = 0 from nI_ne0 (by omega) (by omega)), if_neg q0, if_neg n1, if_neg (by simp)]
          show bd (f_X12_allMeal (nI w) (nI k) μ) _ = _
          rw [m_allMeal h hw hk, bd_some, mo2_eq (aR A w) h3 63]
          rfl
    | succ m ih =>
      intro i fu hi hf
      obtain ⟨fu, rfl⟩ : ∃ z, fu = z + 1 := ⟨fu - 1, by omega⟩
      have u1 := ih (i + 1) fu (by omega) (by omega)
      have em : mo2 (aR A w) (aR A w 0) (i + 1) = imx (mo2 (aR A w) (aR A w 0) i) (aR A w i) := rfl
      have hgo : ∀ x6 : Int32, x6 = eM (fN (rB A w) (i + 1)) → f_X12_ridge_108 (fx6 f_X12_ridge_77 fu) (nI w) (nI q) (mo2 (aR A w) (aR A w 0) i) (nI i) x6 μ = some (if q = 0 then eC (fN (rB A w) 64) else if fN (rB A w) 64 = none then 1 else eA (aR A w) (fN (rB A w) 64) - mo2 (aR A w) (-3) 64, μ) := by
        intro x6 h6
        rw [← u1, h6, em]
        generalize fx6 f_X12_ridge_77 fu = kk
        unfold f_X12_ridge_108 f_X12_ridge_134
        rw [m_allMeal h hw (show i < 64 by omega), bd_some]
        unfold imx
        by_cases r : aR A w i ≤ mo2 (aR A w) (aR A w 0) i
        · rw [if_pos r, if_neg (Int32.not_lt.mpr r), lt_eq, nI_1]
        · rw [if_neg r, if_pos (Int32.not_le.mp r), lt_eq, nI_1]
      show f_X12_ridge_77 (fx6 f_X12_ridge_77 fu) _ _ _ _ _ _ = _
      generalize fx6 f_X12_ridge_77 fu = kk at hgo
      unfold f_X12_ridge_77
      rw [if_neg (show ¬ (64 : Int32) ≤ nI i from nI_ge (a := i) (b := 64) (by omega) (by omega))]
      cases hf2 : fN (rB A w) i with
      | none =>
        rw [if_pos (show eM none = -1 from rfl), m_isRest h hw (show i < 64 by omega), bd_some]
        by_cases r : rB A w i = true
        · rw [r, if_neg (by decide)]
          exact hgo _ (by rw [fN_n1 hf2 r]; rfl)
        · rw [Bool.eq_false_iff.mpr r, if_pos (by rfl)]
          exact hgo _ (by rw [fN_n0 hf2 (Bool.eq_false_iff.mpr r)])
      | some k =>
        have hk := fN_lt _ _ _ hf2
        rw [if_neg (show ¬ eM (some k) = -1 from nI_m1 (by omega))]
        exact hgo _ (by rw [fN_s hf2])
  have hF : 64 < FU := by decide
  exact key 64 0 FU (by omega) hF
theorem op_ridge (n : Nat) (σ μ : Mem) (p1 p2 p3 p4 p5 : Int32) (hR : Rel (n + 1) σ μ) : ∃ (r : Int32) (σ1 μ1 : Mem), f_X11_ridge p1 p2 p3 p4 p5 σ = some (r, σ1) ∧ f_X12_ridge p1 p2 p3 p4 p5 μ = some (r, μ1) ∧ Rel n σ1 μ1 := by
  have hi := rel_idle n σ μ hR
  obtain ⟨hn, Am, M, hA, hH, hI, hp, hm, ha⟩ := hR
  have hM5 := hA.1
  have g2 : gI σ 2 0 = nI M := hA.2.1
  have g3 : gI μ 1 0 = nI M := hA.2.2.1
  have g10 := hA.2.2.2.2.2.2.2.2.2
  by_cases h1 : wi p1 0 (nI M - 1) = 0
  · exact ⟨-1, σ, μ, by simp only [bd_some, bv_some, lt_eq, ↓reduceIte, f_X11_ridge, c_isMill, g2, h1], by simp only [bd_some, bv_some, lt_eq, ↓reduceIte, f_X12_ridge, m_isMill, g3, h1], hi⟩
  by_cases h2 : wi p2 0 (nI M - 1) = 0
  · exact ⟨-1, σ, μ, by simp only [bd_some, bv_some, lt_eq, ↓reduceIte, f_X11_ridge, c_isMill, g2, h1, h2], by simp only [bd_some, bv_some, lt_eq, ↓reduceIte, f_X12_ridge, m_isMill, g3, h1, h2], hi⟩
  by_cases h3 : wi p3 0 (nI M - 1) = 0
  · exact ⟨-1, σ, μ, by simp only [bd_some, bv_some, lt_eq, ↓reduceIte, f_X11_ridge, c_isMill, g2, h1, h2, h3], by simp only [bd_some, bv_some, lt_eq, ↓reduceIte, f_X12_ridge, m_isMill, g3, h1, h2, h3], hi⟩
  by_cases h4 : wi p4 0 5 = 0
  · exact ⟨-1, σ, μ, by simp only [bd_some, bv_some, lt_eq, ↓reduceIte, f_X11_ridge, c_isMill, g2, h1, h2, h3, c_isWind, h4], by simp only [bd_some, bv_some, lt_eq, ↓reduceIte, f_X12_ridge, m_isMill, g3, h1, h2, h3, m_isWind, h4], hi⟩
  by_cases h5 : wi p5 0 1 = 0
  · exact ⟨-1, σ, μ, by simp only [bd_some, bv_some, lt_eq, ↓reduceIte, f_X11_ridge, c_isMill, g2, h1, h2, h3, c_isWind, h4, c_within, h5], by simp only [bd_some, bv_some, lt_eq, ↓reduceIte, f_X12_ridge, m_isMill, g3, h1, h2, h3, m_isWind, h4, m_within, h5], hi⟩
  obtain ⟨a, ha1, rfl⟩ := wi_cnt h1 (by omega)
  obtain ⟨b, hb1, rfl⟩ := wi_cnt h2 (by omega)
  obtain ⟨c, hc1, rfl⟩ := wi_cnt h3 (by omega)
  obtain ⟨w, -, hw, rfl⟩ := wi_nat (lo := 0) (hi := 5) h4 (by omega) (by omega)
  obtain ⟨q, -, hq, rfl⟩ := wi_nat (lo := 0) (hi := 1) h5 (by omega) (by omega)
  obtain ⟨σ1, s1, s2⟩ := c_ridge (Am := Am) (σ0 := σ) (w := w) (q := q) hM5 (fun k hk => sMill_cM (g10 k hk)) ha1 hb1 hc1 (by omega) (by omega) ⟨fun _ _ => rfl, fun _ _ => ⟨rfl, fun _ _ _ => rfl⟩, hH⟩
  obtain ⟨μ1, t1, t2, t3, t4⟩ := m_looks (p := 0) (μ0 := μ) (sMill_mM (g10 a ha1)) (by omega) (by omega) (μ := μ) ⟨fun _ _ _ _ _ => rfl, fun _ _ => rfl⟩
  obtain ⟨μ2, u1, u2, u3, u4⟩ := m_looks (p := 1) (μ0 := μ) (sMill_mM (g10 b hb1)) (by omega) (by omega) t2
  obtain ⟨μ3, v1, v2, v3, v4⟩ := m_looks (p := 2) (μ0 := μ) (sMill_mM (g10 c hc1)) (by omega) (by omega) u2
  have tb : rTb (aM Am a b c) μ3 := by
    intro p hp j hj
    rcases (show p = 0 ∨ p = 1 ∨ p = 2 by omega) with rfl | rfl | rfl
    · rw [v4 _ (by omega), u4 _ (by omega), t3 j hj]
      rfl
    · rw [v4 _ (by omega), u3 j hj]
      rfl
    · rw [v3 j hj]
      rfl
  refine ⟨if q = 0 then eC (fN (rB (aM Am a b c) w) 64) else if fN (rB (aM Am a b c) w) 64 = none then 1 else eA (aR (aM Am a b c) w) (fN (rB (aM Am a b c) w) 64) - mo2 (aR (aM Am a b c) w) (-3) 64, σ1, μ3, ?_, ?_, ?_⟩
  · simp only [bd_some, bv_some, lt_eq, ↓reduceIte, f_X11_ridge, c_isMill, g2, h1, h2, h3, c_isWind, h4, c_within, h5]
    exact s1
  · have al := m_allMeal tb (w := w) (ways := 0) (by omega) (by omega)
    have lo : (-3 : Int32) ≤ aR (aM Am a b c) w 0 := by
      refine aR_lo (fun p => ?_) w 0
      unfold aM
      split
      · exact (sMill_cM (g10 a ha1)).1
      · split
        · exact (sMill_cM (g10 b hb1)).1
        · exact (sMill_cM (g10 c hc1)).1
    have rd := m_ridge tb (w := w) (q := q) (by omega) (by omega) lo
    have t1 : f_X12_looksAt 0 (nI a) μ = some μ1 := t1
    have u1 : f_X12_looksAt 1 (nI b) μ1 = some μ2 := u1
    have v1 : f_X12_looksAt 2 (nI c) μ2 = some μ3 := v1
    have al : f_X12_allMeal (nI w) 0 μ3 = some (aR (aM Am a b c) w 0, μ3) := al
    simp only [bd_some, bv_some, lt_eq, ↓reduceIte, f_X12_ridge, m_isMill, g3, h1, h2, h3, m_isWind, h4, m_within, h5, t1, u1, v1, al]
    exact rd
  · have y := v2.1
    have z := v2.2
    have u := s2.1
    exact rel_ask (by omega) hA hI ha (fun c hc => u c (by omega)) (u 46 (by omega)) (u 47 (by omega)) s2.2.1 s2.2.2
      (rPl_up hp (by omega) (by rw [u 41 (by omega)]) (by rw [u 41 (by omega)]) (u 42 (by omega)) (u 43 (by omega)) (u 45 (by omega)) (fun _ _ => rfl))
      (y 1 (by omega) (by omega) (by omega) (by omega)) (y 2 (by omega) (by omega) (by omega) (by omega)) (y 15 (by omega) (by omega) (by omega) (by omega)) (z 3 (by omega)) (z 35 (by omega))
      (rMs_up hm (by omega) (z 25 (by omega)) (z 26 (by omega)) (y 5 (by omega) (by omega) (by omega) (by omega)) (y 10 (by omega) (by omega) (by omega) (by omega)) (y 11 (by omega) (by omega) (by omega) (by omega)))
