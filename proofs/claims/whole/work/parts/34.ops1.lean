/-! SIMPLE CALLS -/
theorem t_li (w v : Nat) : nI w * 6 + nI v = nI (w * 6 + v) := by
  simp only [li, pk_mul, nI_add]
theorem c_chanceOf {w v : Nat} (hw : w < 6) (hv : v < 6) (σ : Mem) : f_X10_chanceOf (nI w) (nI v) σ = some (gI σ 6 (6 * w + v), σ) := by
  unfold f_X10_chanceOf
  simp (disch := omega) only [lt_eq, li, pk_mul, nI_add, nIlt, nIle, neg_, ib_nI, gd_true, nI_tn]
  rw [Nat.mul_comm]
theorem op_chance (n : Nat) (σ μ : Mem) (p1 p2 : Int32) (hR : Rel (n + 1) σ μ) : ∃ (r : Int32) (σ1 μ1 : Mem), f_X11_chance p1 p2 σ = some (r, σ1) ∧ f_X12_chance p1 p2 μ = some (r, μ1) ∧ Rel n σ1 μ1 := by
  have hi := rel_idle n σ μ hR
  by_cases h1 : wi p1 0 5 = 0
  · exact ⟨-1, σ, μ, by simp only [f_X11_chance, c_isWind, bd_some, h1, ↓reduceIte], by simp only [f_X12_chance, m_isWind, bd_some, h1, ↓reduceIte], hi⟩
  by_cases h2 : wi p2 0 5 = 0
  · exact ⟨-1, σ, μ, by simp only [f_X11_chance, c_isWind, bd_some, h1, h2, ↓reduceIte], by simp only [f_X12_chance, m_isWind, bd_some, h1, h2, ↓reduceIte], hi⟩
  obtain ⟨w, -, hw, rfl⟩ := wi_nat (lo := 0) (hi := 5) h1 (by omega) (by omega)
  obtain ⟨v, -, hv, rfl⟩ := wi_nat (lo := 0) (hi := 5) h2 (by omega) (by omega)
  refine ⟨gI σ 6 (6 * w + v), σ, μ, by simp only [f_X11_chance, c_isWind, bd_some, h1, h2, ↓reduceIte, c_chanceOf (show w < 6 by omega) (show v < 6 by omega)], ?_, hi⟩
  have e : (851 : Int32) + 6 * nI w + nI v = nI (851 + 6 * w + v) := by simp only [li, pk_mul, nI_add]
  simp only [f_X12_chance, m_isWind, bd_some, h1, h2, ↓reduceIte, e]
  rw [ib_nI (by omega) (by omega), gd_true, nI_tn (by omega)]
  obtain ⟨-, Am, M, ⟨-, -, -, -, hWd, -⟩, -⟩ := hR
  obtain ⟨c, hc, -⟩ := hWd w (by omega)
  have h6 := (hc v (by omega)).1
  have h7 := (hc v (by omega)).2
  rw [h7]
  have h6' : gI σ 6 (6 * w + v) = nI (c v) := h6
  rw [h6']
