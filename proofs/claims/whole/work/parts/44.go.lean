/-! TO GO AN HOUR -/
theorem c_goOn0 {σ : Mem} {k : Nat} {A : Mil} (hM : cM (gI σ) k A) (hH : cHours (gI σ) k A) {t w st h d : Nat} (hw : w < 6) (hs : st < 8) (hh : h < 10) (hd : d < 10) (ht : t < 2 ^ 30) (h1 : gI σ 7 1 = nI t) (h2 : gI σ 7 2 = nI h) (h3 : gI σ 7 3 = nI d) (h5 : gI σ 7 5 = nI 0) : ∃ σ', f_X2_goOn (mo k) (nI w) (nI st) σ = some (gN A w st h d, σ') ∧ gI σ' 7 0 = gI σ 7 0 ∧ gI σ' 7 1 = nI (t + 1) ∧ gI σ' 7 2 = nI (hHe A w st h d) ∧ gI σ' 7 3 = nI (hDu A w st h d) ∧ gI σ' 7 4 = gI σ 7 4 + nI (hMe A w st h d) ∧ gI σ' 7 5 = bI (hAw A w st h d) ∧ (∀ c, c ≠ 7 → c ≠ mo k + 5 → c ≠ mo k + 6 → gI σ' c = gI σ c) ∧ cHours (gI σ') k A := by
  have b := hM.1
  have n7 : ∀ j, mo k + j ≠ 7 := fun j => by unfold mo; omega
  have hM1 : cM (gI (sI σ 7 1 (nI (t + 1)))) k A := cM_c hM (fun j _ _ => gI_sc _ _ _ _ (n7 0)) (fun i _ _ => gIr _ _ _ (n7 i))
  have hH1 : cHours (gI (sI σ 7 1 (nI (t + 1)))) k A := by
    intro w st h d q1 q2 q3 q4
    rw [gIr _ _ _ (n7 6)]
    exact hH w st h d q1 q2 q3 q4
  obtain ⟨σ2, s1, s2, s3⟩ := c_hourBy hM1 hH1 hw hs hh hd
  have z : ∀ j, j ≠ 1 → gI σ2 7 j = gI σ 7 j := fun j hj => by
    rw [s2 7 (Ne.symm (n7 5)) (Ne.symm (n7 6)), gI_sk _ _ _ hj]
  have z1 : gI σ2 7 1 = nI (t + 1) := by
    rw [s2 7 (Ne.symm (n7 5)) (Ne.symm (n7 6)), gI_ss]
  have z4 := z 4 (by omega)
  have z0 := z 0 (by omega)
  refine ⟨sI (sI (sI (sI σ2 7 5 (bI (hAw A w st h d))) 7 2 (nI (hHe A w st h d))) 7 3 (nI (hDu A w st h d))) 7 4 (gI σ 7 4 + nI (hMe A w st h d)), ?_, ?_, ?_, ?_, ?_, ?_, ?_, fun c c1 c2 c3 => ?_, ?_⟩
  · unfold f_X2_goOn
    simp (disch := omega) only [lt_eq, bd_some, bv_some, li, pk_mul, nI_add, nIsub, nIlt, nIle, nIeq, nIdiv, nIrem, neg_, pos_, ib_nI, gd_true, nI_tn, gI_ss, gI_sk, gI_sc, ↓reduceIte, nIn1b, h1, h2, h3, h5, s1, c_isAway b w st hh hd, bI_iz, c_heatOf b w st hh hd, c_dullOf b w st hh hd, c_mealOf b w st hh hd, c_gainOf b w st hh hd, z4]
  · simp (disch := omega) only [gI_ss, gI_sk, gI_sc]; exact z0
  · simp (disch := omega) only [gI_ss, gI_sk, gI_sc]; exact z1
  · simp (disch := omega) only [gI_ss, gI_sk, gI_sc]
  · simp (disch := omega) only [gI_ss, gI_sk, gI_sc]
  · simp (disch := omega) only [gI_ss, gI_sk, gI_sc]
  · simp (disch := omega) only [gI_ss, gI_sk, gI_sc]
  · rw [gIr _ _ _ c1, gIr _ _ _ c1, gIr _ _ _ c1, gIr _ _ _ c1, s2 c c2 c3, gIr _ _ _ c1]
  · intro w st h d q1 q2 q3 q4
    rw [gIr _ _ _ (n7 6), gIr _ _ _ (n7 6), gIr _ _ _ (n7 6), gIr _ _ _ (n7 6)]
    exact s3 w st h d q1 q2 q3 q4
theorem c_goOn1 {σ : Mem} {k t : Nat} {p2 p3 : Int32} (h1 : gI σ 7 1 = nI t) (h5 : gI σ 7 5 = nI 1) : f_X2_goOn (mo k) p2 p3 σ = some (-1, sI σ 7 1 (nI (t + 1))) := by
  unfold f_X2_goOn
  simp (disch := omega) only [lt_eq, bd_some, bv_some, li, pk_mul, nI_add, nIsub, nIlt, nIle, nIeq, nIdiv, nIrem, neg_, pos_, ib_nI, gd_true, nI_tn, gI_ss, gI_sk, gI_sc, ↓reduceIte, nIn1b, h1, h5]
theorem op_go (n : Nat) (σ μ : Mem) (p1 p2 : Int32) (hR : Rel (n + 1) σ μ) : ∃ (r : Int32) (σ1 μ1 : Mem), f_X11_go p1 p2 σ = some (r, σ1) ∧ f_X12_go p1 p2 μ = some (r, μ1) ∧ Rel n σ1 μ1 := by
  have hi := rel_idle n σ μ hR
  obtain ⟨hn, Am, M, hA, hH, hI, hp, hm, ha⟩ := hR
  have hM5 := hA.1
  have g10 := hA.2.2.2.2.2.2.2.2.2
  have g6 := hA.2.2.2.2.2.1
  by_cases h1 : wi p1 0 5 = 0
  · exact ⟨-11, σ, μ, by simp only [bd_some, bv_some, lt_eq, ↓reduceIte, f_X11_go, c_isWind, h1], by simp only [bd_some, bv_some, lt_eq, ↓reduceIte, f_X12_go, m_isWind, h1], hi⟩
  by_cases h2 : wi p2 0 7 = 0
  · exact ⟨-12, σ, μ, by simp only [bd_some, bv_some, lt_eq, ↓reduceIte, f_X11_go, c_isWind, h1, c_isSetting, h2], by simp only [bd_some, bv_some, lt_eq, ↓reduceIte, f_X12_go, m_isWind, h1, m_within, h2], hi⟩
  rcases led_is hA with ⟨-, l2, l3⟩ | ⟨k, hk, l5, l7, l2, l3⟩
  · exact ⟨-13, σ, μ, by simp only [bd_some, bv_some, lt_eq, ↓reduceIte, f_X11_go, c_isWind, h1, c_isSetting, h2, l2], by simp only [bd_some, bv_some, lt_eq, ↓reduceIte, f_X12_go, m_isWind, h1, m_within, h2, l3], hi⟩
  obtain ⟨w, -, hw, rfl⟩ := wi_nat (lo := 0) (hi := 5) h1 (by omega) (by omega)
  obtain ⟨st, -, hs, rfl⟩ := wi_nat (lo := 0) (hi := 7) h2 (by omega) (by omega)
  obtain ⟨e1, e2, ⟨t, ht, e6⟩, ⟨h, hh, e7⟩, ⟨d, hd, e8⟩, ⟨q, hq, e9⟩⟩ := g6
  have e1 : ∀ i, i < 6 → gI σ 7 i = gI μ 1 (5 + i) := e1
  have c71 : gI σ 7 1 = nI t := (e1 1 (by omega)).trans e6
  have c72 : gI σ 7 2 = nI h := (e1 2 (by omega)).trans e7
  have c73 : gI σ 7 3 = nI d := (e1 3 (by omega)).trans e8
  have c74 : gI σ 7 4 = gI μ 1 9 := e1 4 (by omega)
  have c75 : gI σ 7 5 = nI q := (e1 5 (by omega)).trans e9
  by_cases h3 : t = 999
  · subst h3
    refine ⟨-13, σ, μ, ?_, ?_, hi⟩
    · simp only [bd_some, bv_some, lt_eq, ↓reduceIte, f_X11_go, c_isWind, h1, c_isSetting, h2, l2, e10_]
      simp (disch := omega) only [lt_eq, bd_some, bv_some, li, pk_mul, nI_add, nIsub, nIlt, nIle, nIeq, nIdiv, nIrem, neg_, pos_, ib_nI, gd_true, nI_tn, gI_ss, gI_sk, gI_sc, ↓reduceIte, nIn1b, c71]
    · simp only [bd_some, bv_some, lt_eq, ↓reduceIte, f_X12_go, m_isWind, h1, m_within, h2, l3, e10_]
      simp (disch := omega) only [lt_eq, bd_some, bv_some, li, pk_mul, nI_add, nIsub, nIlt, nIle, nIeq, nIdiv, nIrem, neg_, pos_, ib_nI, gd_true, nI_tn, gI_ss, gI_sk, gI_sc, ↓reduceIte, nIn1b, e6]
  have ibk : ib (nI k) 5 = true := ib_nI (by omega) (by omega)
  have tk : (nI k).toNatClampNeg = k := nI_tn (by omega)
  have n7 : ∀ j, 7 ≠ mo k + j := fun j => by unfold mo; omega
  have hcM := sMill_cM (g10 k hk)
  have hmM := sMill_mM (g10 k hk)
  rcases (show q = 0 ∨ q = 1 by omega) with rfl | rfl
  · obtain ⟨σ1, s1, v0, v1, v2, v3, v4, v5, s2, s3⟩ := c_goOn0 hcM (hH k hk) (show w < 6 by omega) (show st < 8 by omega) (show h < 10 by omega) (show d < 10 by omega) (show t < 2 ^ 30 by omega) c71 c72 c73 c75
    have hmM1 : mM (gI (sI μ 1 6 (nI (t + 1))) 1) k (Am k) := mM_m hmM (by omega) (fun j hj => by simp (disch := omega) only [gI_ss, gI_sk, gI_sc])
    obtain ⟨ν, f1, u11, u12, u13, u14, u15, f3, f4, -⟩ := m_hourOf hmM1 (by omega) (show w < 6 by omega) (show st < 8 by omega) (show h < 10 by omega) (show d < 10 by omega)
    have z : ∀ j, j ≠ 6 → gI ν 1 j = gI μ 1 j := fun j hj => by rw [f3 1 (by omega) (by omega) (by omega)]; simp (disch := omega) only [gI_ss, gI_sk, gI_sc]
    have z9 := z 9 (by omega)
    have z6 : gI ν 1 6 = nI (t + 1) := by rw [f3 1 (by omega) (by omega) (by omega)]; simp (disch := omega) only [gI_ss, gI_sk, gI_sc]
    have eC : f_X11_go (nI w) (nI st) σ = some (gN (Am k) w st h d, σ1) := by
      simp only [bd_some, bv_some, lt_eq, ↓reduceIte, f_X11_go, c_isWind, h1, c_isSetting, h2, l2, e10_, l7, ibk, gd_true, tk, s1]
      simp (disch := omega) only [lt_eq, bd_some, bv_some, li, pk_mul, nI_add, nIsub, nIlt, nIle, nIeq, nIdiv, nIrem, neg_, pos_, ib_nI, gd_true, nI_tn, gI_ss, gI_sk, gI_sc, ↓reduceIte, nIn1b, c71]
    obtain ⟨μ1, hμ1⟩ : ∃ μ1, μ1 = sI (sI (sI (sI ν 1 10 (bI (hAw (Am k) w st h d))) 1 7 (nI (hHe (Am k) w st h d))) 1 8 (nI (hDu (Am k) w st h d))) 1 9 (gI μ 1 9 + nI (hMe (Am k) w st h d)) := ⟨_, rfl⟩
    have eM : f_X12_go (nI w) (nI st) μ = some (gN (Am k) w st h d, μ1) := by
      simp only [bd_some, bv_some, lt_eq, ↓reduceIte, f_X12_go, m_isWind, h1, m_within, h2, l3, e10_]
      by_cases qa : hAw (Am k) w st h d = true
      · rw [qa] at u11 hμ1
        have eg : gN (Am k) w st h d = -1 := if_pos qa
        rw [hMe_aw qa] at hμ1
        rw [eg] at u13 ⊢
        rw [bI_t] at u11 hμ1
        unfold f_X12_go_114
        simp (disch := omega) only [lt_eq, bd_some, bv_some, li, pk_mul, nI_add, nIsub, nIlt, nIle, nIeq, nIdiv, nIrem, neg_, pos_, ib_nI, gd_true, nI_tn, gI_ss, gI_sk, gI_sc, ↓reduceIte, nIn1b, e6, e9, l5, e7, e8, f1, u11, u13, u14, u15, z9]
        rw [hμ1]
      · have qa0 : hAw (Am k) w st h d = false := Bool.eq_false_iff.mpr qa
        rw [qa0] at u11 hμ1
        have eg : gN (Am k) w st h d = nI (hMe (Am k) w st h d) := if_neg qa
        rw [eg] at u13 ⊢
        rw [bI_f] at u11 hμ1
        unfold f_X12_go_114
        simp (disch := omega) only [lt_eq, bd_some, bv_some, li, pk_mul, nI_add, nIsub, nIlt, nIle, nIeq, nIdiv, nIrem, neg_, pos_, ib_nI, gd_true, nI_tn, gI_ss, gI_sk, gI_sc, ↓reduceIte, nIn1b, e6, e9, l5, e7, e8, f1, u11, u13, u14, u15, z9]
        rw [hμ1]
    obtain ⟨o1, o2⟩ := one_mill hH (a' := gI σ1) (fun c hc h5 h6 => s2 c (by omega) h5 h6) s3
    have u : ∀ c, c < 48 → c ≠ 7 → gI σ1 c = gI σ c := fun c hc h7 => s2 c h7 (by unfold mo; omega) (by unfold mo; omega)
    have y1 : ∀ j, (j < 6 ∨ 10 < j) → gI μ1 1 j = gI μ 1 j := fun j hj => by rw [hμ1]; simp (disch := omega) only [gI_ss, gI_sk, gI_sc, z]
    have yr : ∀ c, c ≠ 1 → gI μ1 c = gI ν c := fun c hc => by rw [hμ1]; simp (disch := omega) only [gIr, gIrL]
    have y0 : ∀ j, (j < 11 ∨ 15 < j) → gI μ1 0 j = gI μ 0 j := fun j hj => by rw [yr 0 (by omega), f4 j hj]; simp (disch := omega) only [gI_ss, gI_sk, gI_sc]
    have y2 : ∀ c, c ≠ 0 → c ≠ 1 → c ≠ 3 → c ≠ 4 → gI μ1 c = gI μ c := fun c h0 h1 h3 h4 => by rw [yr c h1, f3 c h0 h3 h4]; simp (disch := omega) only [gIr, gIrL]
    have bb := hcM.1
    refine ⟨_, σ1, μ1, eC, eM, rel_go (by omega) hA hI ha (fun c hc h7 => u c (by omega) h7) (u 46 (by omega) (by omega)) (u 47 (by omega) (by omega)) o1 o2 ?_ (fun j hj => y1 j (by omega)) (y2 2 (by omega) (by omega) (by omega) (by omega)) (y2 15 (by omega) (by omega) (by omega) (by omega)) (y0 3 (by omega)) (y0 35 (by omega)) ?_ ?_⟩
    · exact rPl_up hp (by omega) (by rw [u 41 (by omega) (by omega)]) (by rw [u 41 (by omega) (by omega)]) (u 42 (by omega) (by omega)) (u 43 (by omega) (by omega)) (u 45 (by omega) (by omega)) (fun j hj => y1 j (by omega))
    · exact rMs_up hm (by omega) (y0 25 (by omega)) (y0 26 (by omega)) (y2 5 (by omega) (by omega) (by omega) (by omega)) (y2 10 (by omega) (by omega) (by omega) (by omega)) (y2 11 (by omega) (by omega) (by omega) (by omega))
    · have w5 : gI μ1 1 5 = gI μ 1 5 := y1 5 (by omega)
      have w6 : gI μ1 1 6 = nI (t + 1) := by rw [hμ1]; simp (disch := omega) only [gI_ss, gI_sk, gI_sc]; exact z6
      have w7 : gI μ1 1 7 = nI (hHe (Am k) w st h d) := by rw [hμ1]; simp (disch := omega) only [gI_ss, gI_sk, gI_sc]
      have w8 : gI μ1 1 8 = nI (hDu (Am k) w st h d) := by rw [hμ1]; simp (disch := omega) only [gI_ss, gI_sk, gI_sc]
      have w9 : gI μ1 1 9 = gI μ 1 9 + nI (hMe (Am k) w st h d) := by rw [hμ1]; simp (disch := omega) only [gI_ss, gI_sk, gI_sc]
      have w10 : gI μ1 1 10 = bI (hAw (Am k) w st h d) := by rw [hμ1]; simp (disch := omega) only [gI_ss, gI_sk, gI_sc]
      refine ⟨fun i hi => ?_, Or.inr ⟨k, hk, w5.trans l5⟩, ⟨t + 1, by omega, w6⟩, ⟨_, hHe_le _ _ _ (by omega) _, w7⟩, ⟨_, hDu_le _ _ _ _ (by omega), w8⟩, ?_⟩
      · rcases (show i = 0 ∨ i = 1 ∨ i = 2 ∨ i = 3 ∨ i = 4 ∨ i = 5 by omega) with rfl | rfl | rfl | rfl | rfl | rfl
        · exact v0.trans ((e1 0 (by omega)).trans w5.symm)
        · exact v1.trans w6.symm
        · exact v2.trans w7.symm
        · exact v3.trans w8.symm
        · rw [v4, c74]; exact w9.symm
        · exact v5.trans w10.symm
      · rw [w10]
        cases hAw (Am k) w st h d
        · exact ⟨0, by omega, rfl⟩
        · exact ⟨1, by omega, rfl⟩
  · have s1 := c_goOn1 (k := k) (p2 := nI w) (p3 := nI st) c71 c75
    have eC : f_X11_go (nI w) (nI st) σ = some (-1, sI σ 7 1 (nI (t + 1))) := by
      simp only [bd_some, bv_some, lt_eq, ↓reduceIte, f_X11_go, c_isWind, h1, c_isSetting, h2, l2, e10_, l7, ibk, gd_true, tk, s1]
      simp (disch := omega) only [lt_eq, bd_some, bv_some, li, pk_mul, nI_add, nIsub, nIlt, nIle, nIeq, nIdiv, nIrem, neg_, pos_, ib_nI, gd_true, nI_tn, gI_ss, gI_sk, gI_sc, ↓reduceIte, nIn1b, c71]
    have eM : f_X12_go (nI w) (nI st) μ = some (-1, sI μ 1 6 (nI (t + 1))) := by
      simp only [bd_some, bv_some, lt_eq, ↓reduceIte, f_X12_go, m_isWind, h1, m_within, h2, l3, e10_]
      simp (disch := omega) only [lt_eq, bd_some, bv_some, li, pk_mul, nI_add, nIsub, nIlt, nIle, nIeq, nIdiv, nIrem, neg_, pos_, ib_nI, gd_true, nI_tn, gI_ss, gI_sk, gI_sc, ↓reduceIte, nIn1b, e6, e9]
    refine ⟨_, _, _, eC, eM, rel_go (by omega) hA hI ha (fun c hc h7 => by simp (disch := omega) only [gIr, gIrL]) rfl rfl (fun j hj => ⟨gIr _ _ _ (by unfold mo; omega), fun i _ _ => gIr _ _ _ (by unfold mo; omega)⟩) (fun j hj => ?_) ?_ (fun j hj => by simp (disch := omega) only [gI_ss, gI_sk, gI_sc]) rfl rfl rfl rfl ?_ ?_⟩
    · exact cHours_c (hH j hj) (by omega) (fun c h1 h2 => by simp (disch := omega) only [gIr, gIrL])
    · exact rPl_up hp (by omega) rfl rfl rfl rfl rfl (fun j hj => by simp (disch := omega) only [gI_ss, gI_sk, gI_sc])
    · exact rMs_up hm (by omega) rfl rfl rfl rfl rfl
    · refine ⟨fun i hi => ?_, Or.inr ⟨k, hk, by simp (disch := omega) only [gI_ss, gI_sk, gI_sc]; exact l5⟩, ⟨t + 1, by omega, by simp (disch := omega) only [gI_ss, gI_sk, gI_sc]⟩, ⟨h, hh, by simp (disch := omega) only [gI_ss, gI_sk, gI_sc]; exact e7⟩, ⟨d, hd, by simp (disch := omega) only [gI_ss, gI_sk, gI_sc]; exact e8⟩, ⟨1, by omega, by simp (disch := omega) only [gI_ss, gI_sk, gI_sc]; exact e9⟩⟩
      rcases (show i = 0 ∨ i = 1 ∨ i = 2 ∨ i = 3 ∨ i = 4 ∨ i = 5 by omega) with rfl | rfl | rfl | rfl | rfl | rfl
      · simp (disch := omega) only [gI_ss, gI_sk, gI_sc]; exact e1 0 (by omega)
      · simp (disch := omega) only [gI_ss, gI_sk, gI_sc]
      · simp (disch := omega) only [gI_ss, gI_sk, gI_sc]; exact e1 2 (by omega)
      · simp (disch := omega) only [gI_ss, gI_sk, gI_sc]; exact e1 3 (by omega)
      · simp (disch := omega) only [gI_ss, gI_sk, gI_sc]; exact e1 4 (by omega)
      · simp (disch := omega) only [gI_ss, gI_sk, gI_sc]; exact e1 5 (by omega)
