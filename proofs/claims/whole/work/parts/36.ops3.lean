/-! WIND -/
theorem c_follow {w v : Nat} (hw : w < 6) (hv : v < 6) (x : Int32) (σ : Mem) : f_X10_follow (nI w) (nI v) x σ = some (sI σ 6 (6 * w + v) x) := by
  unfold f_X10_follow
  simp (disch := omega) only [lt_eq, bd_some, bv_some, li, pk_mul, nI_add, nIsub, nIlt, nIle, nIeq, nIdiv, nIrem, neg_, pos_, ib_nI, gd_true, nI_tn, gI_ss, gI_sk, gI_sc, ↓reduceIte, nIn1b]
  rw [Nat.mul_comm]
/-- six numbers by their place -/
def six (a b c d e f : Nat) : Nat → Nat := fun i => if i = 0 then a else if i = 1 then b else if i = 2 then c else if i = 3 then d else if i = 4 then e else f
theorem op_wind (n : Nat) (σ μ : Mem) (p1 p2 p3 p4 p5 p6 : Int32) (hR : Rel (n + 1) σ μ) : ∃ (r : Int32) (σ1 μ1 : Mem), f_X11_wind p1 p2 p3 p4 p5 p6 σ = some (r, σ1) ∧ f_X12_wind p1 p2 p3 p4 p5 p6 μ = some (r, μ1) ∧ Rel n σ1 μ1 := by
  have hi := rel_idle n σ μ hR
  obtain ⟨hn, Am, M, ⟨g1, g2, g3, g4, g5, g6, g7, g8, g9, g10⟩, hH, hI, hp, hm, ha⟩ := hR
  by_cases h1 : wi p1 0 5 = 0
  · exact ⟨-1, σ, μ, by simp only [bd_some, bv_some, lt_eq, ↓reduceIte, f_X11_wind, c_isWind, h1], by simp only [bd_some, bv_some, lt_eq, ↓reduceIte, f_X12_wind, m_isWind, h1], hi⟩
  by_cases h2 : wi p2 0 1000 = 0
  · exact ⟨-2, σ, μ, by simp only [bd_some, bv_some, lt_eq, ↓reduceIte, f_X11_wind, c_isWind, c_isChance, h1, h2], by simp only [bd_some, bv_some, lt_eq, ↓reduceIte, f_X12_wind, m_isWind, m_within, h1, h2], hi⟩
  by_cases h3 : wi p3 0 1000 = 0
  · exact ⟨-2, σ, μ, by simp only [bd_some, bv_some, lt_eq, ↓reduceIte, f_X11_wind, c_isWind, c_isChance, h1, h2, h3], by simp only [bd_some, bv_some, lt_eq, ↓reduceIte, f_X12_wind, m_isWind, m_within, h1, h2, h3], hi⟩
  by_cases h4 : wi p4 0 1000 = 0
  · exact ⟨-2, σ, μ, by simp only [bd_some, bv_some, lt_eq, ↓reduceIte, f_X11_wind, c_isWind, c_isChance, h1, h2, h3, h4], by simp only [bd_some, bv_some, lt_eq, ↓reduceIte, f_X12_wind, m_isWind, m_within, h1, h2, h3, h4], hi⟩
  by_cases h5 : wi p5 0 1000 = 0
  · exact ⟨-2, σ, μ, by simp only [bd_some, bv_some, lt_eq, ↓reduceIte, f_X11_wind, c_isWind, c_isChance, h1, h2, h3, h4, h5], by simp only [bd_some, bv_some, lt_eq, ↓reduceIte, f_X12_wind, m_isWind, m_within, h1, h2, h3, h4, h5], hi⟩
  by_cases h6 : wi p6 0 1000 = 0
  · exact ⟨-2, σ, μ, by simp only [bd_some, bv_some, lt_eq, ↓reduceIte, f_X11_wind, c_isWind, c_isChance, h1, h2, h3, h4, h5, h6], by simp only [bd_some, bv_some, lt_eq, ↓reduceIte, f_X12_wind, m_isWind, m_within, h1, h2, h3, h4, h5, h6], hi⟩
  obtain ⟨w, -, hw, rfl⟩ := wi_nat (lo := 0) (hi := 5) h1 (by omega) (by omega)
  obtain ⟨a, -, ha', rfl⟩ := wi_nat (lo := 0) (hi := 1000) h2 (by omega) (by omega)
  obtain ⟨b, -, hb, rfl⟩ := wi_nat (lo := 0) (hi := 1000) h3 (by omega) (by omega)
  obtain ⟨c, -, hc', rfl⟩ := wi_nat (lo := 0) (hi := 1000) h4 (by omega) (by omega)
  obtain ⟨d, -, hd', rfl⟩ := wi_nat (lo := 0) (hi := 1000) h5 (by omega) (by omega)
  obtain ⟨e, -, he, rfl⟩ := wi_nat (lo := 0) (hi := 1000) h6 (by omega) (by omega)
  by_cases h7 : ¬ a + b + c + d + e ≤ 1000
  · refine ⟨-2, σ, μ, ?_, ?_, hi⟩
    · simp only [bd_some, bv_some, lt_eq, ↓reduceIte, f_X11_wind, c_isWind, c_isChance, h1, h2, h3, h4, h5, h6]
      simp (disch := omega) only [lt_eq, bd_some, bv_some, li, pk_mul, nI_add, nIsub, nIlt, nIle, nIeq, nIdiv, nIrem, neg_, pos_, ib_nI, gd_true, nI_tn, gI_ss, gI_sk, gI_sc, ↓reduceIte, nIn1b]
    · simp only [bd_some, bv_some, lt_eq, ↓reduceIte, f_X12_wind, m_isWind, m_within, h1, h2, h3, h4, h5, h6]
      simp (disch := omega) only [lt_eq, bd_some, bv_some, li, pk_mul, nI_add, nIsub, nIlt, nIle, nIeq, nIdiv, nIrem, neg_, pos_, ib_nI, gd_true, nI_tn, gI_ss, gI_sk, gI_sc, ↓reduceIte, nIn1b]
  have hc : f_X11_wind (nI w) (nI a) (nI b) (nI c) (nI d) (nI e) σ = some (1, sI (sI (sI (sI (sI (sI (sI σ 6 (6 * w + 0) (nI a)) 6 (6 * w + 1) (nI b)) 6 (6 * w + 2) (nI c)) 6 (6 * w + 3) (nI d)) 6 (6 * w + 4) (nI e)) 6 (6 * w + 5) (nI (1000 - a - b - c - d - e))) 41 4 (gI σ 41 4 + 1)) := by
    simp only [bd_some, bv_some, lt_eq, ↓reduceIte, f_X11_wind, c_isWind, c_isChance, h1, h2, h3, h4, h5, h6]
    simp (disch := omega) only [lt_eq, bd_some, bv_some, li, pk_mul, nI_add, nIsub, nIlt, nIle, nIeq, nIdiv, nIrem, neg_, pos_, ib_nI, gd_true, nI_tn, gI_ss, gI_sk, gI_sc, ↓reduceIte, nIn1b, c_follow, f_X5_forget]
  have hd : f_X12_wind (nI w) (nI a) (nI b) (nI c) (nI d) (nI e) μ = some (1, sI (sI (sI (sI (sI (sI μ 1 (851 + 6 * w) (nI a)) 1 (851 + 6 * w + 1) (nI b)) 1 (851 + 6 * w + 2) (nI c)) 1 (851 + 6 * w + 3) (nI d)) 1 (851 + 6 * w + 4) (nI e)) 1 (851 + 6 * w + 5) (nI (1000 - a - b - c - d - e))) := by
    simp only [bd_some, bv_some, lt_eq, ↓reduceIte, f_X12_wind, m_isWind, m_within, h1, h2, h3, h4, h5, h6]
    simp (disch := omega) only [lt_eq, bd_some, bv_some, li, pk_mul, nI_add, nIsub, nIlt, nIle, nIeq, nIdiv, nIrem, neg_, pos_, ib_nI, gd_true, nI_tn, gI_ss, gI_sk, gI_sc, ↓reduceIte, nIn1b]
  refine ⟨_, _, _, hc, hd, by omega, Am, M, ⟨g1, g2, ?_, ?_, ?_, ?_, ?_, ?_, ?_, ?_⟩, ?_, ?_, ?_, ?_, ?_⟩
  · simp (disch := omega) only [gI_ss, gI_sk, gI_sc]; exact g3
  · exact sTape_m g4 (fun j hj => by simp (disch := omega) only [gI_ss, gI_sk, gI_sc])
  · intro w' hw'
    by_cases hww : w' = w
    · subst hww
      refine ⟨six a b c d e (1000 - a - b - c - d - e), fun i hi => ?_, ?_⟩
      · rcases (show i = 0 ∨ i = 1 ∨ i = 2 ∨ i = 3 ∨ i = 4 ∨ i = 5 by omega) with rfl | rfl | rfl | rfl | rfl | rfl <;> (refine ⟨?_, ?_⟩ <;> simp (disch := omega) only [gI_ss, gI_sk, gI_sc, Nat.add_zero] <;> rfl)
      · show a + b + c + d + e + (1000 - a - b - c - d - e) = 1000
        omega
    · obtain ⟨f, q1, q2⟩ := g5 w' hw'
      refine ⟨f, fun i hi => ⟨?_, ?_⟩, q2⟩
      · simp (disch := omega) only [gI_ss, gI_sk, gI_sc]; exact (q1 i hi).1
      · simp (disch := omega) only [gI_ss, gI_sk, gI_sc]; exact (q1 i hi).2
  · exact sLed_m g6 (fun j hj => by simp (disch := omega) only [gI_ss, gI_sk, gI_sc])
  · exact sRules_m g7 (fun j hj => by simp (disch := omega) only [gI_ss, gI_sk, gI_sc])
  · exact sDay_m g8 (fun j hj => by simp (disch := omega) only [gI_ss, gI_sk, gI_sc])
  · exact sOrders_m g9 (fun j hj => by simp (disch := omega) only [gI_ss, gI_sk, gI_sc])
  · exact sMills_c (sMills_m g10 g1 (fun j hj => by simp (disch := omega) only [gI_ss, gI_sk, gI_sc])) g1 (fun c h1 h2 => by simp (disch := omega) only [gIr, gIrL])
  · exact fun k hk => cHours_c (hH k hk) (by omega) (fun c h1 h2 => by simp (disch := omega) only [gIr, gIrL])
  · exact rIm_c hI (by omega) rfl rfl rfl (fun c h1 h2 => by simp (disch := omega) only [gIr, gIrL]) (fun c h1 h2 => by simp (disch := omega) only [gIr, gIrL])
  · exact rPl_fg hp (by omega) (by omega) rfl rfl rfl rfl
  · exact rMs_up hm (by omega) rfl rfl rfl rfl rfl
  · exact rAc_same ha rfl rfl rfl rfl
/-! A WORD OF A RULE -/
theorem c_isUnder {kd v : Nat} (h : kd ≤ 6) (hv : v ≤ 6) (σ μ : Mem) : ∃ u : Int32, f_X7_isUnder (nI kd) (nI v) σ = some (u, σ) ∧ f_X12_isUnder (nI kd) (nI v) μ = some (u, μ) := by
  rcases (show kd = 0 ∨ kd = 1 ∨ kd = 2 ∨ kd = 3 ∨ kd = 4 ∨ kd = 5 ∨ kd = 6 by omega) with rfl | rfl | rfl | rfl | rfl | rfl | rfl <;>
  rcases (show v = 0 ∨ v = 1 ∨ v = 2 ∨ v = 3 ∨ v = 4 ∨ v = 5 ∨ v = 6 by omega) with rfl | rfl | rfl | rfl | rfl | rfl | rfl <;>
  first
  | exact ⟨1, rfl, rfl⟩
  | exact ⟨0, rfl, rfl⟩
theorem op_as (n : Nat) (σ μ : Mem) (p1 p2 : Int32) (hR : Rel (n + 1) σ μ) : ∃ (r : Int32) (σ1 μ1 : Mem), f_X11_as p1 p2 σ = some (r, σ1) ∧ f_X12_as p1 p2 μ = some (r, μ1) ∧ Rel n σ1 μ1 := by
  have hi := rel_idle n σ μ hR
  obtain ⟨hn, Am, M, ⟨g1, g2, g3, g4, g5, g6, ⟨d1, D, d2, d3, d4⟩, g8, g9, g10⟩, hH, hI, hp, hm, ha⟩ := hR
  have d1 : gI σ 8 4 = nI D := d1.trans d3
  have d4 : ∀ i, i < D → gI σ 9 i = gI μ 1 (887 + i) ∧ gI σ 10 i = gI μ 1 (897 + i) ∧ gI σ 11 i = gI μ 1 (907 + i) ∧ le_ (gI μ 1 (887 + i)) 6 ∧ le_ (gI μ 1 (897 + i)) 7 ∧ ∃ z, z ≤ 10 ∧ gI μ 1 (907 + i) = nI z ∧ ∀ j, j < z → gI σ 12 (10 * i + j) = gI μ 1 (917 + 10 * i + j) ∧ le_ (gI μ 1 (917 + 10 * i + j)) 7 := d4
  by_cases h1 : wi p1 0 (nI D - 1) = 0
  · exact ⟨-1, σ, μ, by simp only [bd_some, bv_some, lt_eq, ↓reduceIte, f_X11_as, c_isRule, d1, h1], by simp only [bd_some, bv_some, lt_eq, ↓reduceIte, f_X12_as, m_isRule, d3, h1], hi⟩
  by_cases h2 : wi p2 0 6 = 0
  · exact ⟨-1, σ, μ, by simp only [bd_some, bv_some, lt_eq, ↓reduceIte, f_X11_as, c_isRule, d1, c_within, h1, h2], by simp only [bd_some, bv_some, lt_eq, ↓reduceIte, f_X12_as, m_isRule, d3, m_within, h1, h2], hi⟩
  obtain ⟨i, hi1, rfl⟩ := wi_cnt h1 (by omega)
  obtain ⟨v, -, hv, rfl⟩ := wi_nat (lo := 0) (hi := 6) h2 (by omega) (by omega)
  obtain ⟨q1, q2, q3, ⟨kd, q4, q4'⟩, q5, -⟩ := d4 i hi1
  have c9 : gI σ 9 i = nI kd := q1.trans q4'
  have hu : ∃ u, f_X7_isUnder (nI kd) (nI v) σ = some (u, σ) ∧ f_X12_isUnder (nI kd) (nI v) μ = some (u, μ) := c_isUnder q4 hv σ μ
  obtain ⟨u, u1, u2⟩ := hu
  by_cases hu0 : u = 0
  · subst hu0
    refine ⟨-6, σ, μ, ?_, ?_, hi⟩
    · simp only [bd_some, bv_some, lt_eq, ↓reduceIte, f_X11_as, c_isRule, d1, c_within, h1, h2]
      simp (disch := omega) only [lt_eq, bd_some, bv_some, li, pk_mul, nI_add, nIsub, nIlt, nIle, nIeq, nIdiv, nIrem, neg_, pos_, ib_nI, gd_true, nI_tn, gI_ss, gI_sk, gI_sc, ↓reduceIte, nIn1b, c9, u1]
    · simp only [bd_some, bv_some, lt_eq, ↓reduceIte, f_X12_as, m_isRule, d3, m_within, h1, h2]
      simp (disch := omega) only [lt_eq, bd_some, bv_some, li, pk_mul, nI_add, nIsub, nIlt, nIle, nIeq, nIdiv, nIrem, neg_, pos_, ib_nI, gd_true, nI_tn, gI_ss, gI_sk, gI_sc, ↓reduceIte, nIn1b, q4', u2]
  · refine ⟨gI σ 10 i, σ, μ, ?_, ?_, hi⟩
    · simp only [bd_some, bv_some, lt_eq, ↓reduceIte, f_X11_as, c_isRule, d1, c_within, h1, h2]
      simp (disch := omega) only [lt_eq, bd_some, bv_some, li, pk_mul, nI_add, nIsub, nIlt, nIle, nIeq, nIdiv, nIrem, neg_, pos_, ib_nI, gd_true, nI_tn, c9, u1]
      exact if_neg hu0
    · simp only [bd_some, bv_some, lt_eq, ↓reduceIte, f_X12_as, m_isRule, d3, m_within, h1, h2]
      simp (disch := omega) only [lt_eq, bd_some, bv_some, li, pk_mul, nI_add, nIsub, nIlt, nIle, nIeq, nIdiv, nIrem, neg_, pos_, ib_nI, gd_true, nI_tn, q4', u2, q2]
      exact if_neg hu0
