/-! CALLS THAT WRITE A LITTLE -/
theorem e10_ : ((1 : Int32) = 0) = False := by decide
theorem op_day (n : Nat) (σ μ : Mem) (p1 p2 : Int32) (hR : Rel (n + 1) σ μ) : ∃ (r : Int32) (σ1 μ1 : Mem), f_X11_day p1 p2 σ = some (r, σ1) ∧ f_X12_day p1 p2 μ = some (r, μ1) ∧ Rel n σ1 μ1 := by
  have hi := rel_idle n σ μ hR
  obtain ⟨hn, Am, M, ⟨g1, g2, g3, g4, g5, g6, g7, ⟨d1, D, d2, d3, d4⟩, g9, g10⟩, hH, hI, hp, hm, ha⟩ := hR
  have d1 : gI σ 13 2 = nI D := d1.trans d3
  have d4 : ∀ i, i < D → gI σ 14 i = gI μ 1 (1017 + i) ∧ gI σ 15 i = gI μ 1 (1027 + i) ∧ le_ (gI μ 1 (1017 + i)) 5 ∧ le_ (gI μ 1 (1027 + i)) 7 := d4
  by_cases h0 : p1 = -1
  · refine ⟨0, sI σ 13 2 0, sI μ 1 2 0, by simp only [bd_some, bv_some, lt_eq, ↓reduceIte, f_X11_day, h0], by simp only [bd_some, bv_some, lt_eq, ↓reduceIte, f_X12_day, h0], by omega, Am, M, ⟨g1, g2, ?_, ?_, ?_, ?_, ?_, ?_, ?_, ?_⟩, ?_, ?_, ?_, ?_, ?_⟩
    · simp (disch := omega) only [gI_ss, gI_sk, gI_sc]; exact g3
    · exact sTape_m g4 (fun j hj => by simp (disch := omega) only [gI_ss, gI_sk, gI_sc])
    · exact sWinds_m g5 (fun j hj => by simp (disch := omega) only [gI_ss, gI_sk, gI_sc])
    · exact sLed_m g6 (fun j hj => by simp (disch := omega) only [gI_ss, gI_sk, gI_sc])
    · exact sRules_m g7 (fun j hj => by simp (disch := omega) only [gI_ss, gI_sk, gI_sc])
    · exact ⟨rfl, 0, by omega, rfl, fun i hi => by omega⟩
    · exact sOrders_m g9 (fun j hj => by simp (disch := omega) only [gI_ss, gI_sk, gI_sc])
    · exact sMills_c (sMills_m g10 g1 (fun j hj => by simp (disch := omega) only [gI_ss, gI_sk, gI_sc])) g1 (fun c h1 h2 => by simp (disch := omega) only [gIr, gIrL])
    · exact fun k hk => cHours_c (hH k hk) (by omega) (fun c h1 h2 => by simp (disch := omega) only [gIr, gIrL])
    · exact rIm_c hI (by omega) rfl rfl rfl (fun c h1 h2 => by simp (disch := omega) only [gIr, gIrL]) (fun c h1 h2 => by simp (disch := omega) only [gIr, gIrL])
    · exact rPl_up hp (by omega) rfl rfl rfl rfl rfl (fun j hj => by simp (disch := omega) only [gI_ss, gI_sk, gI_sc])
    · exact rMs_up hm (by omega) rfl rfl rfl rfl rfl
    · exact rAc_same ha rfl rfl rfl rfl
  by_cases h1 : wi p1 0 5 = 0
  · exact ⟨-1, σ, μ, by simp only [bd_some, bv_some, lt_eq, ↓reduceIte, f_X11_day, c_isWind, h0, h1], by simp only [bd_some, bv_some, lt_eq, ↓reduceIte, f_X12_day, m_isWind, h0, h1], hi⟩
  by_cases h2 : wi p2 0 7 = 0
  · exact ⟨-2, σ, μ, by simp only [bd_some, bv_some, lt_eq, ↓reduceIte, f_X11_day, c_isWind, c_isSetting, h0, h1, h2], by simp only [bd_some, bv_some, lt_eq, ↓reduceIte, f_X12_day, m_isWind, m_within, h0, h1, h2], hi⟩
  by_cases h3 : D = 10
  · subst h3
    have ca : ¬ gI σ 13 2 < 10 := by rw [d1]; decide
    have cb : gI μ 1 2 = 10 := d3
    exact ⟨-4, σ, μ, by simp only [bd_some, bv_some, lt_eq, ↓reduceIte, f_X11_day, c_isWind, c_isSetting, h0, h1, h2, ca], by simp only [bd_some, bv_some, lt_eq, ↓reduceIte, f_X12_day, m_isWind, m_within, h0, h1, h2, cb], hi⟩
  obtain ⟨w, -, hw, rfl⟩ := wi_nat (lo := 0) (hi := 5) h1 (by omega) (by omega)
  obtain ⟨v, -, hv, rfl⟩ := wi_nat (lo := 0) (hi := 7) h2 (by omega) (by omega)
  have hc : f_X11_day (nI w) (nI v) σ = some (nI (D + 1), sI (sI (sI σ 14 D (nI w)) 15 D (nI v)) 13 2 (nI (D + 1))) := by
    simp only [bd_some, bv_some, lt_eq, ↓reduceIte, f_X11_day, c_isWind, c_isSetting, h0, h1, h2, f_X1_append]
    simp (disch := omega) only [lt_eq, bd_some, bv_some, li, pk_mul, nI_add, nIsub, nIlt, nIle, nIeq, nIdiv, nIrem, neg_, pos_, ib_nI, gd_true, nI_tn, gI_ss, gI_sk, gI_sc, ↓reduceIte, nIn1b, d1]
  have hd : f_X12_day (nI w) (nI v) μ = some (nI (D + 1), sI (sI (sI μ 1 (1017 + D) (nI w)) 1 (1027 + D) (nI v)) 1 2 (nI (D + 1))) := by
    simp only [bd_some, bv_some, lt_eq, ↓reduceIte, f_X12_day, m_isWind, m_within, h0, h1, h2]
    simp (disch := omega) only [lt_eq, bd_some, bv_some, li, pk_mul, nI_add, nIsub, nIlt, nIle, nIeq, nIdiv, nIrem, neg_, pos_, ib_nI, gd_true, nI_tn, gI_ss, gI_sk, gI_sc, ↓reduceIte, nIn1b, d3]
  refine ⟨_, _, _, hc, hd, by omega, Am, M, ⟨g1, g2, ?_, ?_, ?_, ?_, ?_, ?_, ?_, ?_⟩, ?_, ?_, ?_, ?_, ?_⟩
  · simp (disch := omega) only [gI_ss, gI_sk, gI_sc]; exact g3
  · exact sTape_m g4 (fun j hj => by simp (disch := omega) only [gI_ss, gI_sk, gI_sc])
  · exact sWinds_m g5 (fun j hj => by simp (disch := omega) only [gI_ss, gI_sk, gI_sc])
  · exact sLed_m g6 (fun j hj => by simp (disch := omega) only [gI_ss, gI_sk, gI_sc])
  · exact sRules_m g7 (fun j hj => by simp (disch := omega) only [gI_ss, gI_sk, gI_sc])
  · refine ⟨by simp (disch := omega) only [gI_ss, gI_sk, gI_sc], D + 1, by omega, by simp (disch := omega) only [gI_ss, gI_sk, gI_sc], fun i hi => ?_⟩
    by_cases hiD : i = D
    · subst hiD
      refine ⟨?_, ?_, ⟨w, hw, ?_⟩, ⟨v, hv, ?_⟩⟩ <;> simp (disch := omega) only [gI_ss, gI_sk, gI_sc]
    · have q := d4 i (by omega)
      refine ⟨?_, ?_, ?_, ?_⟩
      · simp (disch := omega) only [gI_ss, gI_sk, gI_sc]; exact q.1
      · simp (disch := omega) only [gI_ss, gI_sk, gI_sc]; exact q.2.1
      · simp (disch := omega) only [gI_ss, gI_sk, gI_sc]; exact q.2.2.1
      · simp (disch := omega) only [gI_ss, gI_sk, gI_sc]; exact q.2.2.2
  · exact sOrders_m g9 (fun j hj => by simp (disch := omega) only [gI_ss, gI_sk, gI_sc])
  · exact sMills_c (sMills_m g10 g1 (fun j hj => by simp (disch := omega) only [gI_ss, gI_sk, gI_sc])) g1 (fun c h1 h2 => by simp (disch := omega) only [gIr, gIrL])
  · exact fun k hk => cHours_c (hH k hk) (by omega) (fun c h1 h2 => by simp (disch := omega) only [gIr, gIrL])
  · exact rIm_c hI (by omega) rfl rfl rfl (fun c h1 h2 => by simp (disch := omega) only [gIr, gIrL]) (fun c h1 h2 => by simp (disch := omega) only [gIr, gIrL])
  · exact rPl_up hp (by omega) rfl rfl rfl rfl rfl (fun j hj => by simp (disch := omega) only [gI_ss, gI_sk, gI_sc])
  · exact rMs_up hm (by omega) rfl rfl rfl rfl rfl
  · exact rAc_same ha rfl rfl rfl rfl
