/-! SIMPLE CALLS -/
theorem t_li (w v : Nat) : nI w * 6 + nI v = nI (w * 6 + v) := by
  simp only [li, pk_mul, nI_add]
theorem c_chanceOf {w v : Nat} (hw : w < 6) (hv : v < 6) (σ : Mem) : f_X10_chanceOf (nI w) (nI v) σ = some (gI σ 6 (6 * w + v), σ) := by
  unfold f_X10_chanceOf
  simp (disch := omega) only [lt_eq, li, pk_mul, nI_add, nIlt, nIle, neg_, ib_nI, gd_true, nI_tn]
  rw [Nat.mul_comm]
theorem op_chance (n : Nat) (σ μ : Mem) (p1 p2 : Int32) (hR : Rel (n + 1) σ μ) : ∃ (r : Int32) (σ1 μ1 : Mem), f_X11_chance p1 p2 σ = some (r, σ1) ∧ f_X12_chance p1 p2 μ = some (r, μ1) ∧ Rel n σ1 μ1 := by
  have hi := rel_idle n σ μ hR
  by_cases h1 : wi p1 0 5 = 0
  · exact ⟨-1, σ, μ, by simp only [f_X11_chance, c_isWind, bd_some, h1, ↓reduceIte], by simp only [f_X12_chance, m_isWind, bd_some, h1, ↓reduceIte], hi⟩
  by_cases h2 : wi p2 0 5 = 0
  · exact ⟨-1, σ, μ, by simp only [f_X11_chance, c_isWind, bd_some, h1, h2, ↓reduceIte], by simp only [f_X12_chance, m_isWind, bd_some, h1, h2, ↓reduceIte], hi⟩
  obtain ⟨w, -, hw, rfl⟩ := wi_nat (lo := 0) (hi := 5) h1 (by omega) (by omega)
  obtain ⟨v, -, hv, rfl⟩ := wi_nat (lo := 0) (hi := 5) h2 (by omega) (by omega)
  refine ⟨gI σ 6 (6 * w + v), σ, μ, by simp only [f_X11_chance, c_isWind, bd_some, h1, h2, ↓reduceIte, c_chanceOf (show w < 6 by omega) (show v < 6 by omega)], ?_, hi⟩
  have e : (851 : Int32) + 6 * nI w + nI v = nI (851 + 6 * w + v) := by simp only [li, pk_mul, nI_add]
  simp only [f_X12_chance, m_isWind, bd_some, h1, h2, ↓reduceIte, e]
  rw [ib_nI (by omega) (by omega), gd_true, nI_tn (by omega)]
  obtain ⟨-, Am, M, ⟨-, -, -, -, hWd, -⟩, -⟩ := hR
  obtain ⟨c, hc, -⟩ := hWd w (by omega)
  have h6 := (hc v (by omega)).1
  have h7 := (hc v (by omega)).2
  rw [h7]
  have h6' : gI σ 6 (6 * w + v) = nI (c v) := h6
  rw [h6']
theorem op_count (n : Nat) (σ μ : Mem) (p1 : Int32) (hR : Rel (n + 1) σ μ) : ∃ (r : Int32) (σ1 μ1 : Mem), f_X11_count p1 σ = some (r, σ1) ∧ f_X12_count p1 μ = some (r, μ1) ∧ Rel n σ1 μ1 := by
  have hi := rel_idle n σ μ hR
  obtain ⟨-, Am, M, ⟨-, h1, h2, ⟨h3, -⟩, -, -, ⟨h4, -⟩, ⟨h5, -⟩, ⟨h6, -⟩, -⟩, -, -, -, -, ⟨r, -, h7, h8, -⟩⟩ := hR
  have h3 : gI σ 3 1 = gI μ 1 4 := h3
  have h4 : gI σ 8 4 = gI μ 1 1 := h4
  have h5 : gI σ 13 2 = gI μ 1 2 := h5
  have h6 : gI σ 16 4 = gI μ 1 3 := h6
  unfold f_X11_count f_X12_count
  rw [h1, h2, h3, h4, h5, h6, h7, h8]
  split
  · exact ⟨_, _, _, rfl, rfl, hi⟩
  split
  · exact ⟨_, _, _, rfl, rfl, hi⟩
  split
  · exact ⟨_, _, _, rfl, rfl, hi⟩
  split
  · exact ⟨_, _, _, rfl, rfl, hi⟩
  split
  · exact ⟨_, _, _, rfl, rfl, hi⟩
  split
  · exact ⟨_, _, _, rfl, rfl, hi⟩
  exact ⟨_, _, _, rfl, rfl, hi⟩
/-- whether a mill is led: both sides the same -/
theorem led_is {σ μ : Mem} {M : Nat} {Am : Nat → Mil} (h : sAll (gI σ) 2 (gI μ 1) M Am) : (gI μ 1 5 = -1 ∧ f_X11_isLed σ = some (0, σ) ∧ f_X12_isLed μ = some (0, μ)) ∨ ∃ k, k < M ∧ gI μ 1 5 = nI k ∧ gI σ 7 0 = nI k ∧ f_X11_isLed σ = some (1, σ) ∧ f_X12_isLed μ = some (1, μ) := by
  obtain ⟨h1, h2, h3, -, -, ⟨h4, h5, -⟩, -⟩ := h
  have h7 : gI σ 7 0 = gI μ 1 5 := h4 0 (by omega)
  have h2 : gI σ 2 0 = nI M := h2
  rcases h5 with q | ⟨k, hk, q⟩
  · refine Or.inl ⟨q, ?_, ?_⟩
    · rw [c_isLed, h2, h7, q, wi_m1]
    · unfold f_X12_isLed
      rw [if_pos q]
  · refine Or.inr ⟨k, hk, q, h7.trans q, ?_, ?_⟩
    · rw [c_isLed, h2, h7, q, wi_cnt_yes hk (by omega)]
    · unfold f_X12_isLed
      rw [q, if_neg (nI_m1 (by omega))]
theorem op_led (n : Nat) (σ μ : Mem) (p1 : Int32) (hR : Rel (n + 1) σ μ) : ∃ (r : Int32) (σ1 μ1 : Mem), f_X11_led p1 σ = some (r, σ1) ∧ f_X12_led p1 μ = some (r, μ1) ∧ Rel n σ1 μ1 := by
  have hi := rel_idle n σ μ hR
  obtain ⟨-, Am, M, hA, -⟩ := hR
  by_cases h1 : wi p1 0 5 = 0
  · exact ⟨-1, σ, μ, by simp only [bd_some, bv_some, lt_eq, ↓reduceIte, f_X11_led, c_within, h1], by simp only [bd_some, bv_some, lt_eq, ↓reduceIte, f_X12_led, m_within, h1], hi⟩
  rcases led_is hA with ⟨-, h2, h3⟩ | ⟨k, -, -, -, h2, h3⟩
  · exact ⟨-3, σ, μ, by simp only [bd_some, bv_some, lt_eq, ↓reduceIte, f_X11_led, c_within, h1, h2], by simp only [bd_some, bv_some, lt_eq, ↓reduceIte, f_X12_led, m_within, h1, h3], hi⟩
  obtain ⟨j, -, hj, rfl⟩ := wi_nat (lo := 0) (hi := 5) h1 (by omega) (by omega)
  obtain ⟨-, -, -, -, -, ⟨h4, -, -, -, -, q, hq, h5⟩, -⟩ := hA
  have e10 : ¬ (1 : Int32) = 0 := by decide
  have hm : f_X12_led (nI j) μ = some (gI μ 1 (5 + j), μ) := by
    simp only [bd_some, bv_some, lt_eq, ↓reduceIte, f_X12_led, m_within, h1, h3, e10]
    simp (disch := omega) only [lt_eq, bd_some, bv_some, li, pk_mul, nI_add, nIsub, nIlt, nIle, nIeq, nIdiv, nIrem, neg_, pos_, ib_nI, gd_true, nI_tn]
  have h4 : ∀ i, i < 6 → gI σ 7 i = gI μ 1 (5 + i) := h4
  have g := h4 j (by omega)
  refine ⟨gI μ 1 (5 + j), σ, μ, ?_, hm, hi⟩
  simp only [bd_some, bv_some, lt_eq, ↓reduceIte, f_X11_led, c_within, h1, h2, e10]
  rcases (show j = 0 ∨ j = 1 ∨ j = 2 ∨ j = 3 ∨ j = 4 ∨ j = 5 by omega) with rfl | rfl | rfl | rfl | rfl | rfl
  · rw [if_pos (by rfl), g]
  · rw [if_neg (by decide), if_pos (by rfl), g]
  · rw [if_neg (by decide), if_neg (by decide), if_pos (by rfl), g]
  · rw [if_neg (by decide), if_neg (by decide), if_neg (by decide), if_pos (by rfl), g]
  · rw [if_neg (by decide), if_neg (by decide), if_neg (by decide), if_neg (by decide), if_pos (by rfl), g]
  · rw [if_neg (by decide), if_neg (by decide), if_neg (by decide), if_neg (by decide), if_neg (by decide), g]
    rcases (show q = 0 ∨ q = 1 by omega) with rfl | rfl
    · have h5 : gI μ 1 (5 + 5) = 0 := h5
      rw [h5, if_pos rfl]
    · have h5 : gI μ 1 (5 + 5) = 1 := h5
      rw [h5, if_neg (by decide)]
theorem op_lead (n : Nat) (σ μ : Mem) (p1 : Int32) (hR : Rel (n + 1) σ μ) : ∃ (r : Int32) (σ1 μ1 : Mem), f_X11_lead p1 σ = some (r, σ1) ∧ f_X12_lead p1 μ = some (r, μ1) ∧ Rel n σ1 μ1 := by
  have hi := rel_idle n σ μ hR
  obtain ⟨hn, Am, M, ⟨g1, g2, g3, g4, g5, g6, g7, g8, g9, g10⟩, hH, hI, hp, hm, ha⟩ := hR
  have g2 : gI σ 2 0 = nI M := g2
  have g3 : gI μ 1 0 = nI M := g3
  by_cases h1 : wi p1 0 (nI M - 1) = 0
  · exact ⟨-1, σ, μ, by simp only [bd_some, bv_some, lt_eq, ↓reduceIte, f_X11_lead, c_isMill, g2, h1], by simp only [bd_some, bv_some, lt_eq, ↓reduceIte, f_X12_lead, m_isMill, g3, h1], hi⟩
  obtain ⟨k, hk, rfl⟩ := wi_cnt h1 (by omega)
  have hc : f_X11_lead (nI k) σ = some (1, sI (sI (sI (sI (sI (sI (sI σ 7 0 (nI k)) 7 1 0) 7 2 0) 7 3 0) 7 4 0) 7 5 0) 41 4 (gI (sI (sI (sI (sI (sI (sI σ 7 0 (nI k)) 7 1 0) 7 2 0) 7 3 0) 7 4 0) 7 5 0) 41 4 + 1)) := by simp only [bd_some, bv_some, lt_eq, ↓reduceIte, f_X11_lead, c_isMill, g2, h1, f_X2_begin, f_X5_forget]
  have hd : f_X12_lead (nI k) μ = some (1, sI (sI (sI (sI (sI (sI μ 1 5 (nI k)) 1 6 0) 1 7 0) 1 8 0) 1 9 0) 1 10 0) := by simp only [bd_some, bv_some, lt_eq, ↓reduceIte, f_X12_lead, m_isMill, g3, h1]
  refine ⟨1, _, _, hc, hd, by omega, Am, M, ⟨g1, g2, ?_, ?_, ?_, ?_, ?_, ?_, ?_, ?_⟩, ?_, ?_, ?_, ?_, ?_⟩
  · simp (disch := omega) only [gI_ss, gI_sk, gI_sc]; exact g3
  · exact sTape_m g4 (fun j hj => by simp (disch := omega) only [gI_ss, gI_sk, gI_sc])
  · exact sWinds_m g5 (fun j hj => by simp (disch := omega) only [gI_ss, gI_sk, gI_sc])
  · refine ⟨fun i hi => ?_, Or.inr ⟨k, hk, by simp (disch := omega) only [gI_ss, gI_sk, gI_sc]⟩, ⟨0, by omega, by simp (disch := omega) only [gI_ss, gI_sk, gI_sc]; rfl⟩, ⟨0, by omega, by simp (disch := omega) only [gI_ss, gI_sk, gI_sc]; rfl⟩, ⟨0, by omega, by simp (disch := omega) only [gI_ss, gI_sk, gI_sc]; rfl⟩, ⟨0, by omega, by simp (disch := omega) only [gI_ss, gI_sk, gI_sc]; rfl⟩⟩
    rcases (show i = 0 ∨ i = 1 ∨ i = 2 ∨ i = 3 ∨ i = 4 ∨ i = 5 by omega) with rfl | rfl | rfl | rfl | rfl | rfl <;> rfl
  · exact sRules_m g7 (fun j hj => by simp (disch := omega) only [gI_ss, gI_sk, gI_sc])
  · exact sDay_m g8 (fun j hj => by simp (disch := omega) only [gI_ss, gI_sk, gI_sc])
  · exact sOrders_m g9 (fun j hj => by simp (disch := omega) only [gI_ss, gI_sk, gI_sc])
  · exact sMills_c (sMills_m g10 g1 (fun j hj => by simp (disch := omega) only [gI_ss, gI_sk, gI_sc])) g1 (fun c h1 h2 => by simp (disch := omega) only [gIr, gIrL])
  · exact fun k hk => cHours_c (hH k hk) (by omega) (fun c h1 h2 => by simp (disch := omega) only [gIr, gIrL])
  · exact rIm_c hI (by omega) rfl rfl rfl (fun c h1 h2 => by simp (disch := omega) only [gIr, gIrL]) (fun c h1 h2 => by simp (disch := omega) only [gIr, gIrL])
  · exact rPl_fg hp (by omega) (by omega) rfl rfl rfl rfl
  · exact rMs_up hm (by omega) rfl rfl rfl rfl rfl
  · exact rAc_same ha rfl rfl rfl rfl
