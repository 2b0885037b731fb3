/-! CALLS THAT WRITE A LITTLE -/
theorem e10_ : ((1 : Int32) = 0) = False := by decide
theorem op_day (n : Nat) (σ μ : Mem) (p1 p2 : Int32) (hR : Rel (n + 1) σ μ) : ∃ (r : Int32) (σ1 μ1 : Mem), f_X11_day p1 p2 σ = some (r, σ1) ∧ f_X12_day p1 p2 μ = some (r, μ1) ∧ Rel n σ1 μ1 := by
  have hi := rel_idle n σ μ hR
  obtain ⟨hn, Am, M, ⟨g1, g2, g3, g4, g5, g6, g7, ⟨d1, D, d2, d3, d4⟩, g9, g10⟩, hH, hI, hp, hm, ha⟩ := hR
  have d1 : gI σ 13 2 = nI D := d1.trans d3
  have d4 : ∀ i, i < D → gI σ 14 i = gI μ 1 (1017 + i) ∧ gI σ 15 i = gI μ 1 (1027 + i) ∧ le_ (gI μ 1 (1017 + i)) 5 ∧ le_ (gI μ 1 (1027 + i)) 7 := d4
  by_cases h0 : p1 = -1
  · refine ⟨0, sI σ 13 2 0, sI μ 1 2 0, by simp only [bd_some, bv_some, lt_eq, ↓reduceIte, f_X11_day, h0], by simp only [bd_some, bv_some, lt_eq, ↓reduceIte, f_X12_day, h0], by omega, Am, M, ⟨g1, g2, ?_, ?_, ?_, ?_, ?_, ?_, ?_, ?_⟩, ?_, ?_, ?_, ?_, ?_⟩
    · simp (disch := omega) only [gI_ss, gI_sk, gI_sc]; exact g3
    · exact sTape_m g4 (fun j hj => by simp (disch := omega) only [gI_ss, gI_sk, gI_sc])
    · exact sWinds_m g5 (fun j hj => by simp (disch := omega) only [gI_ss, gI_sk, gI_sc])
    · exact sLed_m g6 (fun j hj => by simp (disch := omega) only [gI_ss, gI_sk, gI_sc])
    · exact sRules_m g7 (fun j hj => by simp (disch := omega) only [gI_ss, gI_sk, gI_sc])
    · exact ⟨rfl, 0, by omega, rfl, fun i hi => by omega⟩
    · exact sOrders_m g9 (fun j hj => by simp (disch := omega) only [gI_ss, gI_sk, gI_sc])
    · exact sMills_c (sMills_m g10 g1 (fun j hj => by simp (disch := omega) only [gI_ss, gI_sk, gI_sc])) g1 (fun c h1 h2 => by simp (disch := omega) only [gIr, gIrL])
    · exact fun k hk => cHours_c (hH k hk) (by omega) (fun c h1 h2 => by simp (disch := omega) only [gIr, gIrL])
    · exact rIm_c hI (by omega) rfl rfl rfl (fun c h1 h2 => by simp (disch := omega) only [gIr, gIrL]) (fun c h1 h2 => by simp (disch := omega) only [gIr, gIrL])
    · exact rPl_up hp (by omega) rfl rfl rfl rfl rfl (fun j hj => by simp (disch := omega) only [gI_ss, gI_sk, gI_sc])
    · exact rMs_up hm (by omega) rfl rfl rfl rfl rfl
    · exact rAc_same ha rfl rfl rfl rfl
  by_cases h1 : wi p1 0 5 = 0
  · exact ⟨-1, σ, μ, by simp only [bd_some, bv_some, lt_eq, ↓reduceIte, f_X11_day, c_isWind, h0, h1], by simp only [bd_some, bv_some, lt_eq, ↓reduceIte, f_X12_day, m_isWind, h0, h1], hi⟩
  by_cases h2 : wi p2 0 7 = 0
  · exact ⟨-2, σ, μ, by simp only [bd_some, bv_some, lt_eq, ↓reduceIte, f_X11_day, c_isWind, c_isSetting, h0, h1, h2], by simp only [bd_some, bv_some, lt_eq, ↓reduceIte, f_X12_day, m_isWind, m_within, h0, h1, h2], hi⟩
  by_cases h3 : D = 10
  · subst h3
    have ca : ¬ gI σ 13 2 < 10 := by rw [d1]; decide
    have cb : gI μ 1 2 = 10 := d3
    exact ⟨-4, σ, μ, by simp only [bd_some, bv_some, lt_eq, ↓reduceIte, f_X11_day, c_isWind, c_isSetting, h0, h1, h2, ca], by simp only [bd_some, bv_some, lt_eq, ↓reduceIte, f_X12_day, m_isWind, m_within, h0, h1, h2, cb], hi⟩
  obtain ⟨w, -, hw, rfl⟩ := wi_nat (lo := 0) (hi := 5) h1 (by omega) (by omega)
  obtain ⟨v, -, hv, rfl⟩ := wi_nat (lo := 0) (hi := 7) h2 (by omega) (by omega)
  have hc : f_X11_day (nI w) (nI v) σ = some (nI (D + 1), sI (sI (sI σ 14 D (nI w)) 15 D (nI v)) 13 2 (nI (D + 1))) := by
    simp only [bd_some, bv_some, lt_eq, ↓reduceIte, f_X11_day, c_isWind, c_isSetting, h0, h1, h2, f_X1_append]
    simp (disch := omega) only [lt_eq, bd_some, bv_some, li, pk_mul, nI_add, nIsub, nIlt, nIle, nIeq, nIdiv, nIrem, neg_, pos_, ib_nI, gd_true, nI_tn, gI_ss, gI_sk, gI_sc, ↓reduceIte, nIn1b, d1]
  have hd : f_X12_day (nI w) (nI v) μ = some (nI (D + 1), sI (sI (sI μ 1 (1017 + D) (nI w)) 1 (1027 + D) (nI v)) 1 2 (nI (D + 1))) := by
    simp only [bd_some, bv_some, lt_eq, ↓reduceIte, f_X12_day, m_isWind, m_within, h0, h1, h2]
    simp (disch := omega) only [lt_eq, bd_some, bv_some, li, pk_mul, nI_add, nIsub, nIlt, nIle, nIeq, nIdiv, nIrem, neg_, pos_, ib_nI, gd_true, nI_tn, gI_ss, gI_sk, gI_sc, ↓reduceIte, nIn1b, d3]
  refine ⟨_, _, _, hc, hd, by omega, Am, M, ⟨g1, g2, ?_, ?_, ?_, ?_, ?_, ?_, ?_, ?_⟩, ?_, ?_, ?_, ?_, ?_⟩
  · simp (disch := omega) only [gI_ss, gI_sk, gI_sc]; exact g3
  · exact sTape_m g4 (fun j hj => by simp (disch := omega) only [gI_ss, gI_sk, gI_sc])
  · exact sWinds_m g5 (fun j hj => by simp (disch := omega) only [gI_ss, gI_sk, gI_sc])
  · exact sLed_m g6 (fun j hj => by simp (disch := omega) only [gI_ss, gI_sk, gI_sc])
  · exact sRules_m g7 (fun j hj => by simp (disch := omega) only [gI_ss, gI_sk, gI_sc])
  · refine ⟨by simp (disch := omega) only [gI_ss, gI_sk, gI_sc], D + 1, by omega, by simp (disch := omega) only [gI_ss, gI_sk, gI_sc], fun i hi => ?_⟩
    by_cases hiD : i = D
    · subst hiD
      refine ⟨?_, ?_, ⟨w, hw, ?_⟩, ⟨v, hv, ?_⟩⟩ <;> simp (disch := omega) only [gI_ss, gI_sk, gI_sc]
    · have q := d4 i (by omega)
      refine ⟨?_, ?_, ?_, ?_⟩
      · simp (disch := omega) only [gI_ss, gI_sk, gI_sc]; exact q.1
      · simp (disch := omega) only [gI_ss, gI_sk, gI_sc]; exact q.2.1
      · simp (disch := omega) only [gI_ss, gI_sk, gI_sc]; exact q.2.2.1
      · simp (disch := omega) only [gI_ss, gI_sk, gI_sc]; exact q.2.2.2
  · exact sOrders_m g9 (fun j hj => by simp (disch := omega) only [gI_ss, gI_sk, gI_sc])
  · exact sMills_c (sMills_m g10 g1 (fun j hj => by simp (disch := omega) only [gI_ss, gI_sk, gI_sc])) g1 (fun c h1 h2 => by simp (disch := omega) only [gIr, gIrL])
  · exact fun k hk => cHours_c (hH k hk) (by omega) (fun c h1 h2 => by simp (disch := omega) only [gIr, gIrL])
  · exact rIm_c hI (by omega) rfl rfl rfl (fun c h1 h2 => by simp (disch := omega) only [gIr, gIrL]) (fun c h1 h2 => by simp (disch := omega) only [gIr, gIrL])
  · exact rPl_up hp (by omega) rfl rfl rfl rfl rfl (fun j hj => by simp (disch := omega) only [gI_ss, gI_sk, gI_sc])
  · exact rMs_up hm (by omega) rfl rfl rfl rfl rfl
  · exact rAc_same ha rfl rfl rfl rfl
theorem op_rule (n : Nat) (σ μ : Mem) (p1 p2 : Int32) (hR : Rel (n + 1) σ μ) : ∃ (r : Int32) (σ1 μ1 : Mem), f_X11_rule p1 p2 σ = some (r, σ1) ∧ f_X12_rule p1 p2 μ = some (r, μ1) ∧ Rel n σ1 μ1 := by
  have hi := rel_idle n σ μ hR
  obtain ⟨hn, Am, M, ⟨g1, g2, g3, g4, g5, g6, ⟨d1, D, d2, d3, d4⟩, g8, g9, g10⟩, hH, hI, hp, hm, ha⟩ := hR
  have d1 : gI σ 8 4 = nI D := d1.trans d3
  have d4 : ∀ i, i < D → gI σ 9 i = gI μ 1 (887 + i) ∧ gI σ 10 i = gI μ 1 (897 + i) ∧ gI σ 11 i = gI μ 1 (907 + i) ∧ le_ (gI μ 1 (887 + i)) 6 ∧ le_ (gI μ 1 (897 + i)) 7 ∧ ∃ z, z ≤ 10 ∧ gI μ 1 (907 + i) = nI z ∧ ∀ j, j < z → gI σ 12 (10 * i + j) = gI μ 1 (917 + 10 * i + j) ∧ le_ (gI μ 1 (917 + 10 * i + j)) 7 := d4
  by_cases h1 : wi p1 0 6 = 0
  · exact ⟨-1, σ, μ, by simp only [bd_some, bv_some, lt_eq, ↓reduceIte, f_X11_rule, c_within, h1], by simp only [bd_some, bv_some, lt_eq, ↓reduceIte, f_X12_rule, m_within, h1], hi⟩
  by_cases h2 : wi p2 0 7 = 0
  · exact ⟨-2, σ, μ, by simp only [bd_some, bv_some, lt_eq, ↓reduceIte, f_X11_rule, c_within, h1, h2], by simp only [bd_some, bv_some, lt_eq, ↓reduceIte, f_X12_rule, m_within, h1, h2], hi⟩
  by_cases h3 : D = 10
  · subst h3
    have ca : ¬ gI σ 8 4 < 10 := by rw [d1]; decide
    have cb : gI μ 1 1 = 10 := d3
    exact ⟨-4, σ, μ, by simp only [bd_some, bv_some, lt_eq, ↓reduceIte, f_X11_rule, c_within, h1, h2, ca], by simp only [bd_some, bv_some, lt_eq, ↓reduceIte, f_X12_rule, m_within, h1, h2, cb], hi⟩
  obtain ⟨w, -, hw, rfl⟩ := wi_nat (lo := 0) (hi := 6) h1 (by omega) (by omega)
  obtain ⟨v, -, hv, rfl⟩ := wi_nat (lo := 0) (hi := 7) h2 (by omega) (by omega)
  have hc : f_X11_rule (nI w) (nI v) σ = some (nI D, sI (sI (sI (sI σ 9 D (nI w)) 10 D (nI v)) 11 D (nI 0)) 8 4 (nI (D + 1))) := by
    simp only [bd_some, bv_some, lt_eq, ↓reduceIte, f_X11_rule, c_within, h1, h2, f_X7_append]
    simp (disch := omega) only [lt_eq, bd_some, bv_some, li, pk_mul, nI_add, nIsub, nIlt, nIle, nIeq, nIdiv, nIrem, neg_, pos_, ib_nI, gd_true, nI_tn, gI_ss, gI_sk, gI_sc, ↓reduceIte, nIn1b, d1]
    rfl
  have hd : f_X12_rule (nI w) (nI v) μ = some (nI D, sI (sI (sI (sI μ 1 (887 + D) (nI w)) 1 (897 + D) (nI v)) 1 (907 + D) (nI 0)) 1 1 (nI (D + 1))) := by
    simp only [bd_some, bv_some, lt_eq, ↓reduceIte, f_X12_rule, m_within, h1, h2]
    simp (disch := omega) only [lt_eq, bd_some, bv_some, li, pk_mul, nI_add, nIsub, nIlt, nIle, nIeq, nIdiv, nIrem, neg_, pos_, ib_nI, gd_true, nI_tn, gI_ss, gI_sk, gI_sc, ↓reduceIte, nIn1b, d3]
  refine ⟨_, _, _, hc, hd, by omega, Am, M, ⟨g1, g2, ?_, ?_, ?_, ?_, ?_, ?_, ?_, ?_⟩, ?_, ?_, ?_, ?_, ?_⟩
  · simp (disch := omega) only [gI_ss, gI_sk, gI_sc]; exact g3
  · exact sTape_m g4 (fun j hj => by simp (disch := omega) only [gI_ss, gI_sk, gI_sc])
  · exact sWinds_m g5 (fun j hj => by simp (disch := omega) only [gI_ss, gI_sk, gI_sc])
  · exact sLed_m g6 (fun j hj => by simp (disch := omega) only [gI_ss, gI_sk, gI_sc])
  · refine ⟨by simp (disch := omega) only [gI_ss, gI_sk, gI_sc], D + 1, by omega, by simp (disch := omega) only [gI_ss, gI_sk, gI_sc], fun i hi => ?_⟩
    by_cases hiD : i = D
    · subst hiD
      refine ⟨?_, ?_, ?_, ⟨w, hw, ?_⟩, ⟨v, hv, ?_⟩, 0, by omega, ?_, fun j hj => by omega⟩ <;> simp (disch := omega) only [gI_ss, gI_sk, gI_sc]
    · obtain ⟨q1, q2, q3, q4, q5, z, q6, q7, q8⟩ := d4 i (by omega)
      refine ⟨?_, ?_, ?_, ?_, ?_, z, q6, ?_, fun j hj => ⟨?_, ?_⟩⟩
      · simp (disch := omega) only [gI_ss, gI_sk, gI_sc]; exact q1
      · simp (disch := omega) only [gI_ss, gI_sk, gI_sc]; exact q2
      · simp (disch := omega) only [gI_ss, gI_sk, gI_sc]; exact q3
      · simp (disch := omega) only [gI_ss, gI_sk, gI_sc]; exact q4
      · simp (disch := omega) only [gI_ss, gI_sk, gI_sc]; exact q5
      · simp (disch := omega) only [gI_ss, gI_sk, gI_sc]; exact q7
      · simp (disch := omega) only [gI_ss, gI_sk, gI_sc]; exact (q8 j hj).1
      · simp (disch := omega) only [gI_ss, gI_sk, gI_sc]; exact (q8 j hj).2
  · exact sDay_m g8 (fun j hj => by simp (disch := omega) only [gI_ss, gI_sk, gI_sc])
  · exact sOrders_m g9 (fun j hj => by simp (disch := omega) only [gI_ss, gI_sk, gI_sc])
  · exact sMills_c (sMills_m g10 g1 (fun j hj => by simp (disch := omega) only [gI_ss, gI_sk, gI_sc])) g1 (fun c h1 h2 => by simp (disch := omega) only [gIr, gIrL])
  · exact fun k hk => cHours_c (hH k hk) (by omega) (fun c h1 h2 => by simp (disch := omega) only [gIr, gIrL])
  · exact rIm_c hI (by omega) rfl rfl rfl (fun c h1 h2 => by simp (disch := omega) only [gIr, gIrL]) (fun c h1 h2 => by simp (disch := omega) only [gIr, gIrL])
  · exact rPl_up hp (by omega) rfl rfl rfl rfl rfl (fun j hj => by simp (disch := omega) only [gI_ss, gI_sk, gI_sc])
  · exact rMs_up hm (by omega) rfl rfl rfl rfl rfl
  · exact rAc_same ha rfl rfl rfl rfl
theorem op_row (n : Nat) (σ μ : Mem) (p1 p2 : Int32) (hR : Rel (n + 1) σ μ) : ∃ (r : Int32) (σ1 μ1 : Mem), f_X11_row p1 p2 σ = some (r, σ1) ∧ f_X12_row p1 p2 μ = some (r, μ1) ∧ Rel n σ1 μ1 := by
  have hi := rel_idle n σ μ hR
  obtain ⟨hn, Am, M, ⟨g1, g2, g3, g4, g5, g6, ⟨d1, D, d2, d3, d4⟩, g8, g9, g10⟩, hH, hI, hp, hm, ha⟩ := hR
  have d1 : gI σ 8 4 = nI D := d1.trans d3
  have d4 : ∀ i, i < D → gI σ 9 i = gI μ 1 (887 + i) ∧ gI σ 10 i = gI μ 1 (897 + i) ∧ gI σ 11 i = gI μ 1 (907 + i) ∧ le_ (gI μ 1 (887 + i)) 6 ∧ le_ (gI μ 1 (897 + i)) 7 ∧ ∃ z, z ≤ 10 ∧ gI μ 1 (907 + i) = nI z ∧ ∀ j, j < z → gI σ 12 (10 * i + j) = gI μ 1 (917 + 10 * i + j) ∧ le_ (gI μ 1 (917 + 10 * i + j)) 7 := d4
  by_cases h1 : wi p1 0 (nI D - 1) = 0
  · exact ⟨-1, σ, μ, by simp only [bd_some, bv_some, lt_eq, ↓reduceIte, f_X11_row, c_isRule, d1, h1], by simp only [bd_some, bv_some, lt_eq, ↓reduceIte, f_X12_row, m_isRule, d3, h1], hi⟩
  by_cases h2 : wi p2 0 7 = 0
  · exact ⟨-2, σ, μ, by simp only [bd_some, bv_some, lt_eq, ↓reduceIte, f_X11_row, c_isRule, d1, c_isSetting, h1, h2], by simp only [bd_some, bv_some, lt_eq, ↓reduceIte, f_X12_row, m_isRule, d3, m_within, h1, h2], hi⟩
  obtain ⟨i, hi1, rfl⟩ := wi_cnt h1 (by omega)
  obtain ⟨v, -, hv, rfl⟩ := wi_nat (lo := 0) (hi := 7) h2 (by omega) (by omega)
  obtain ⟨q1, q2, q3, ⟨kd, q4, q4'⟩, q5, z, q6, q7, q8⟩ := d4 i hi1
  have c9 : gI σ 9 i = nI kd := q1.trans q4'
  have c11 : gI σ 11 i = nI z := q3.trans q7
  by_cases h3 : ¬ kd = 6
  · refine ⟨-3, σ, μ, ?_, ?_, hi⟩
    · simp only [bd_some, bv_some, lt_eq, ↓reduceIte, f_X11_row, c_isRule, d1, c_isSetting, h1, h2]
      simp (disch := omega) only [lt_eq, bd_some, bv_some, li, pk_mul, nI_add, nIsub, nIlt, nIle, nIeq, nIdiv, nIrem, neg_, pos_, ib_nI, gd_true, nI_tn, gI_ss, gI_sk, gI_sc, ↓reduceIte, nIn1b, c9]
    · simp only [bd_some, bv_some, lt_eq, ↓reduceIte, f_X12_row, m_isRule, d3, m_within, h1, h2]
      simp (disch := omega) only [lt_eq, bd_some, bv_some, li, pk_mul, nI_add, nIsub, nIlt, nIle, nIeq, nIdiv, nIrem, neg_, pos_, ib_nI, gd_true, nI_tn, gI_ss, gI_sk, gI_sc, ↓reduceIte, nIn1b, q4']
  have h3 : kd = 6 := by omega
  subst h3
  by_cases h4 : z = 10
  · subst h4
    refine ⟨-4, σ, μ, ?_, ?_, hi⟩
    · simp only [bd_some, bv_some, lt_eq, ↓reduceIte, f_X11_row, c_isRule, d1, c_isSetting, h1, h2]
      simp (disch := omega) only [lt_eq, bd_some, bv_some, li, pk_mul, nI_add, nIsub, nIlt, nIle, nIeq, nIdiv, nIrem, neg_, pos_, ib_nI, gd_true, nI_tn, gI_ss, gI_sk, gI_sc, ↓reduceIte, nIn1b, c9, c11]
    · simp only [bd_some, bv_some, lt_eq, ↓reduceIte, f_X12_row, m_isRule, d3, m_within, h1, h2]
      simp (disch := omega) only [lt_eq, bd_some, bv_some, li, pk_mul, nI_add, nIsub, nIlt, nIle, nIeq, nIdiv, nIrem, neg_, pos_, ib_nI, gd_true, nI_tn, gI_ss, gI_sk, gI_sc, ↓reduceIte, nIn1b, q4', q7]
  have hc : f_X11_row (nI i) (nI v) σ = some (nI (z + 1), sI (sI σ 12 (10 * i + z) (nI v)) 11 i (nI (z + 1))) := by
    simp only [bd_some, bv_some, lt_eq, ↓reduceIte, f_X11_row, c_isRule, d1, c_isSetting, h1, h2, f_X7_appendToRow]
    simp (disch := omega) only [lt_eq, bd_some, bv_some, li, pk_mul, nI_add, nIsub, nIlt, nIle, nIeq, nIdiv, nIrem, neg_, pos_, ib_nI, gd_true, nI_tn, gI_ss, gI_sk, gI_sc, ↓reduceIte, nIn1b, c9, c11]
    rw [Nat.mul_comm]
  have hd : f_X12_row (nI i) (nI v) μ = some (nI (z + 1), sI (sI μ 1 (917 + 10 * i + z) (nI v)) 1 (907 + i) (nI (z + 1))) := by
    simp only [bd_some, bv_some, lt_eq, ↓reduceIte, f_X12_row, m_isRule, d3, m_within, h1, h2]
    simp (disch := omega) only [lt_eq, bd_some, bv_some, li, pk_mul, nI_add, nIsub, nIlt, nIle, nIeq, nIdiv, nIrem, neg_, pos_, ib_nI, gd_true, nI_tn, gI_ss, gI_sk, gI_sc, ↓reduceIte, nIn1b, q4', q7]
  refine ⟨_, _, _, hc, hd, by omega, Am, M, ⟨g1, g2, ?_, ?_, ?_, ?_, ?_, ?_, ?_, ?_⟩, ?_, ?_, ?_, ?_, ?_⟩
  · simp (disch := omega) only [gI_ss, gI_sk, gI_sc]; exact g3
  · exact sTape_m g4 (fun j hj => by simp (disch := omega) only [gI_ss, gI_sk, gI_sc])
  · exact sWinds_m g5 (fun j hj => by simp (disch := omega) only [gI_ss, gI_sk, gI_sc])
  · exact sLed_m g6 (fun j hj => by simp (disch := omega) only [gI_ss, gI_sk, gI_sc])
  · refine ⟨by simp (disch := omega) only [gI_ss, gI_sk, gI_sc]; exact d1.trans d3.symm, D, d2, by simp (disch := omega) only [gI_ss, gI_sk, gI_sc]; exact d3, fun i' hi' => ?_⟩
    obtain ⟨t1, t2, t3, t4, t5, z', t6, t7, t8⟩ := d4 i' hi'
    by_cases hii : i' = i
    · subst hii
      refine ⟨by simp (disch := omega) only [gI_ss, gI_sk, gI_sc]; exact t1, by simp (disch := omega) only [gI_ss, gI_sk, gI_sc]; exact t2, by simp (disch := omega) only [gI_ss, gI_sk, gI_sc], by simp (disch := omega) only [gI_ss, gI_sk, gI_sc]; exact t4, by simp (disch := omega) only [gI_ss, gI_sk, gI_sc]; exact t5, z + 1, by omega, by simp (disch := omega) only [gI_ss, gI_sk, gI_sc], fun j hj => ?_⟩
      by_cases hjz : j = z
      · subst hjz
        exact ⟨by simp (disch := omega) only [gI_ss, gI_sk, gI_sc], v, hv, by simp (disch := omega) only [gI_ss, gI_sk, gI_sc]⟩
      · have e := q8 j (by omega)
        exact ⟨by simp (disch := omega) only [gI_ss, gI_sk, gI_sc]; exact e.1, by simp (disch := omega) only [gI_ss, gI_sk, gI_sc]; exact e.2⟩
    · refine ⟨by simp (disch := omega) only [gI_ss, gI_sk, gI_sc]; exact t1, by simp (disch := omega) only [gI_ss, gI_sk, gI_sc]; exact t2, by simp (disch := omega) only [gI_ss, gI_sk, gI_sc]; exact t3, by simp (disch := omega) only [gI_ss, gI_sk, gI_sc]; exact t4, by simp (disch := omega) only [gI_ss, gI_sk, gI_sc]; exact t5, z', t6, by simp (disch := omega) only [gI_ss, gI_sk, gI_sc]; exact t7, fun j hj => ?_⟩
      have e := t8 j hj
      exact ⟨by simp (disch := omega) only [gI_ss, gI_sk, gI_sc]; exact e.1, by simp (disch := omega) only [gI_ss, gI_sk, gI_sc]; exact e.2⟩
  · exact sDay_m g8 (fun j hj => by simp (disch := omega) only [gI_ss, gI_sk, gI_sc])
  · exact sOrders_m g9 (fun j hj => by simp (disch := omega) only [gI_ss, gI_sk, gI_sc])
  · exact sMills_c (sMills_m g10 g1 (fun j hj => by simp (disch := omega) only [gI_ss, gI_sk, gI_sc])) g1 (fun c h1 h2 => by simp (disch := omega) only [gIr, gIrL])
  · exact fun k hk => cHours_c (hH k hk) (by omega) (fun c h1 h2 => by simp (disch := omega) only [gIr, gIrL])
  · exact rIm_c hI (by omega) rfl rfl rfl (fun c h1 h2 => by simp (disch := omega) only [gIr, gIrL]) (fun c h1 h2 => by simp (disch := omega) only [gIr, gIrL])
  · exact rPl_up hp (by omega) rfl rfl rfl rfl rfl (fun j hj => by simp (disch := omega) only [gI_ss, gI_sk, gI_sc])
  · exact rMs_up hm (by omega) rfl rfl rfl rfl rfl
  · exact rAc_same ha rfl rfl rfl rfl
