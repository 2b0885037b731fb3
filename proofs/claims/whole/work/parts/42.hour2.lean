/-! AN HOUR of the class -/
theorem c_hourBy {σ : Mem} {k : Nat} {A : Mil} (hM : cM (gI σ) k A) (hH : cHours (gI σ) k A) {w st h d : Nat} (hw : w < 6) (hs : st < 8) (hh : h < 10) (hd : d < 10) : ∃ σ', f_X3_hourBy (mo k) (nI w) (nI st) (nI h) (nI d) σ = some (nI (hI A w st h d), σ') ∧ (∀ c, c ≠ mo k + 5 → c ≠ mo k + 6 → gI σ' c = gI σ c) ∧ cHours (gI σ') k A := by
  have hMM := hM
  obtain ⟨b1, b2, b3, b4, c8, c9, c10, hGi⟩ := hM
  obtain ⟨i1, i2, -⟩ := hI_at b1 w st hh hd
  have hx : ((w * 8 + st) * 10 + h) * 10 + d < 4800 := by omega
  rcases hH w st h d hw hs hh hd with e | e
  · obtain ⟨V, hV⟩ : ∃ V, V = sI (sI (wS σ (mo k + 5) w st h d 0) (mo k + 5) 5 (nI (hF A w st h d))) (mo k + 6) (((w * 8 + st) * 10 + h) * 10 + d) (nI (hI A w st h d)) := ⟨_, rfl⟩
    refine ⟨V, ?_, ?_, ?_⟩
    · have t1 := c_tog (kd := 0) hMM (τ := wS σ (mo k + 5) w st h d 0) (fun c hc => wS_off σ _ w st h d 0 hc) (wS_sgn0 _ _ _ _ _ _ _) (by omega)
      have tt : ∀ kd, kd < 4 → f_X3_together (mo k) (nI kd) (sI (wS σ (mo k + 5) w st h d 0) (mo k + 5) 5 (nI (hF A w st h d))) = some (nI (hG A kd w st h d), sI (wS σ (mo k + 5) w st h d 0) (mo k + 5) 5 (nI (hF A w st h d))) := fun kd hkd => c_tog hMM (fun c hc => by rw [gIr _ _ _ hc, wS_off σ _ w st h d 0 hc]) (wS_sgn _ _ _ _ _ _ _ _) hkd
      have t2 := tt 2 (by omega)
      have t3 := tt 3 (by omega)
      have t4 := tt 1 (by omega)
      have ew : sI (sI (sI (sI (sI (sI σ (mo k + 5) 0 (nI w)) (mo k + 5) 1 (nI (st / 2))) (mo k + 5) 2 (nI (st % 2))) (mo k + 5) 3 (nI h)) (mo k + 5) 4 (nI d)) (mo k + 5) 5 (nI 0) = wS σ (mo k + 5) w st h d 0 := rfl
      have ef : min 99 (A.1 0 (sgn w st h d 0)) = hF A w st h d := rfl
      have eo : ∀ j, j ≠ mo k + 5 → ∀ i, gI (wS σ (mo k + 5) w st h d 0) j i = gI σ j i := fun j hj i => by rw [wS_off σ _ w st h d 0 hj]
      have o8 := eo (mo k) (by omega) 8
      have o9 := eo (mo k) (by omega) 9
      have o10 := eo (mo k) (by omega) 10
      rw [c8] at o8
      rw [c9] at o9
      rw [c10] at o10
      have g0 := b1 0 (sgn w st h d 0)
      have g1 : hG A 1 w st h d ≤ 990 := b1 _ _
      have g2 : hG A 2 w st h d ≤ 990 := b1 _ _
      have g3 : hG A 3 w st h d ≤ 990 := b1 _ _
      have f1 := hF_le A w st h d
      have s2 : ∀ X, f_X3_toStep (nI (h + hG A 2 w st h d) - nI A.2.1) X = some (nI (min 9 (h + hG A 2 w st h d - A.2.1)), X) := fun X => by
        unfold f_X3_toStep
        rw [step_sub (by omega) (by omega)]
      have s3 : ∀ X, f_X3_toStep (nI (d + hG A 3 w st h d)) X = some (nI (min 9 (d + hG A 3 w st h d)), X) := fun X => by
        unfold f_X3_toStep
        rw [step_n (by omega)]
      have e : gI σ (mo k + 6) (((w * 8 + st) * 10 + h) * 10 + d) = nI 0 := e
      by_cases qa : hAw A w st h d = true
      · have qb := hBu_aw qa
        have qa2 : A.2.2.1 < hF A w st h d := of_decide_eq_true qa
        have or1 : 134217728 ||| hF A w st h d ||| (67108864 ||| h * 2 ^ 17 ||| d * 2 ^ 21) = hI A w st h d := by
          have := hsum_ (a := 1) (b := 0) (d := d) (h := h) (m := 0) (f := hF A w st h d) (by omega) (by omega) (by omega) (by omega) (by omega) (by omega)
          unfold hI
          rw [if_pos qa, qb, hMe_aw qa]
          unfold hDu hHe
          rw [if_pos qa, if_pos qa, if_neg (by decide)]
          rw [← show 2 ^ 27 + 2 ^ 26 * 1 + 2 ^ 25 * 0 + 2 ^ 21 * d + 2 ^ 17 * h + 2 ^ 7 * 0 + hF A w st h d = 2 ^ 27 + 2 ^ 26 + 0 + 2 ^ 21 * d + 2 ^ 17 * h + 2 ^ 7 * 0 + hF A w st h d by omega, ← this]
          rw [Nat.mul_comm h, Nat.mul_comm d]
          simp only [Nat.mul_zero, Nat.zero_or]
          show 2 ^ 27 ||| hF A w st h d ||| (2 ^ 26 ||| 2 ^ 17 * h ||| 2 ^ 21 * d) = 2 ^ 27 ||| (2 ^ 26 ||| (2 ^ 21 * d ||| (2 ^ 17 * h ||| hF A w st h d)))
          ac_rfl
        unfold f_X3_hourBy f_X3_hourBy_227
        simp (disch := omega) only [lt_eq, bd_some, bv_some, li, pk_mul, nI_add, nIsub, nIlt, nIle, nIeq, nIdiv, nIrem, neg_, pos_, ib_nI, gd_true, nI_tn, gI_ss, gI_sk, gI_sc, ↓reduceIte, nIn1b, e, ew, t1, imn_nI, ef, o9, nIa31, nIshl, nIor, or1]
        rw [hV]
      · have qa2 : ¬ A.2.2.1 < hF A w st h d := fun q => qa (decide_eq_true q)
        have qa0 : hAw A w st h d = false := Bool.eq_false_iff.mpr qa
        by_cases qb : A.2.2.2 ≤ h
        · have qb1 : hBu A w st h d = true := by
            unfold hBu
            rw [qa0, decide_eq_true qb]
            rfl
          have or1 : 134217728 ||| hF A w st h d ||| min 9 (h + hG A 2 w st h d - A.2.1) * 2 ^ 17 ||| min 9 (d + hG A 3 w st h d) * 2 ^ 21 ||| 33554432 = hI A w st h d := by
            have := hsum_ (a := 0) (b := 1) (d := min 9 (d + hG A 3 w st h d)) (h := min 9 (h + hG A 2 w st h d - A.2.1)) (m := 0) (f := hF A w st h d) (by omega) (by omega) (by omega) (by omega) (by omega) (by omega)
            have em : hMe A w st h d = 0 := if_pos (Or.inr qb1)
            unfold hI
            rw [if_neg qa, qb1, em]
            unfold hDu hHe
            rw [if_neg qa, if_neg qa, if_pos rfl]
            rw [← show 2 ^ 27 + 2 ^ 26 * 0 + 2 ^ 25 * 1 + 2 ^ 21 * min 9 (d + hG A 3 w st h d) + 2 ^ 17 * min 9 (h + hG A 2 w st h d - A.2.1) + 2 ^ 7 * 0 + hF A w st h d = 2 ^ 27 + 0 + 2 ^ 25 + 2 ^ 21 * min 9 (d + hG A 3 w st h d) + 2 ^ 17 * min 9 (h + hG A 2 w st h d - A.2.1) + 2 ^ 7 * 0 + hF A w st h d by omega, ← this]
            generalize min 9 (h + hG A 2 w st h d - A.2.1) = x
            generalize min 9 (d + hG A 3 w st h d) = y
            rw [Nat.mul_comm x, Nat.mul_comm y]
            simp only [Nat.mul_zero, Nat.zero_or]
            show 2 ^ 27 ||| hF A w st h d ||| 2 ^ 17 * x ||| 2 ^ 21 * y ||| 2 ^ 25 = 2 ^ 27 ||| (2 ^ 25 ||| (2 ^ 21 * y ||| (2 ^ 17 * x ||| hF A w st h d)))
            ac_rfl
          unfold f_X3_hourBy f_X3_hourBy_224 f_X3_hourBy_227
          simp (disch := omega) only [lt_eq, bd_some, bv_some, li, pk_mul, nI_add, nIsub, nIlt, nIle, nIeq, nIdiv, nIrem, neg_, pos_, ib_nI, gd_true, nI_tn, gI_ss, gI_sk, gI_sc, ↓reduceIte, nIn1b, e, ew, t1, imn_nI, ef, o8, o9, o10, t2, s2, t3, s3, nIa31, nIshl, nIor, or1]
          rw [hV]
        · have qb1 : hBu A w st h d = false := by
            unfold hBu
            rw [decide_eq_false qb, Bool.and_false]
          have em : hMe A w st h d = hG A 1 w st h d := if_neg (by rw [qb1, qa0]; decide)
          have or1 : 134217728 ||| hF A w st h d ||| min 9 (h + hG A 2 w st h d - A.2.1) * 2 ^ 17 ||| min 9 (d + hG A 3 w st h d) * 2 ^ 21 ||| hG A 1 w st h d * 2 ^ 7 = hI A w st h d := by
            have := hsum_ (a := 0) (b := 0) (d := min 9 (d + hG A 3 w st h d)) (h := min 9 (h + hG A 2 w st h d - A.2.1)) (m := hG A 1 w st h d) (f := hF A w st h d) (by omega) (by omega) (by omega) (by omega) (by omega) (by omega)
            unfold hI
            rw [if_neg qa, qb1, em]
            unfold hDu hHe
            rw [if_neg qa, if_neg qa, if_neg (by decide)]
            rw [← show 2 ^ 27 + 2 ^ 26 * 0 + 2 ^ 25 * 0 + 2 ^ 21 * min 9 (d + hG A 3 w st h d) + 2 ^ 17 * min 9 (h + hG A 2 w st h d - A.2.1) + 2 ^ 7 * hG A 1 w st h d + hF A w st h d = 2 ^ 27 + 0 + 0 + 2 ^ 21 * min 9 (d + hG A 3 w st h d) + 2 ^ 17 * min 9 (h + hG A 2 w st h d - A.2.1) + 2 ^ 7 * hG A 1 w st h d + hF A w st h d by omega, ← this]
            generalize min 9 (h + hG A 2 w st h d - A.2.1) = x
            generalize min 9 (d + hG A 3 w st h d) = y
            generalize hG A 1 w st h d = z
            rw [Nat.mul_comm x, Nat.mul_comm y, Nat.mul_comm z]
            simp only [Nat.mul_zero, Nat.zero_or]
            show 2 ^ 27 ||| hF A w st h d ||| 2 ^ 17 * x ||| 2 ^ 21 * y ||| 2 ^ 7 * z = 2 ^ 27 ||| (2 ^ 21 * y ||| (2 ^ 17 * x ||| (2 ^ 7 * z ||| hF A w st h d)))
            ac_rfl
          unfold f_X3_hourBy f_X3_hourBy_224 f_X3_hourBy_227
          simp (disch := omega) only [lt_eq, bd_some, bv_some, li, pk_mul, nI_add, nIsub, nIlt, nIle, nIeq, nIdiv, nIrem, neg_, pos_, ib_nI, gd_true, nI_tn, gI_ss, gI_sk, gI_sc, ↓reduceIte, nIn1b, e, ew, t1, imn_nI, ef, o8, o9, o10, t2, s2, t3, s3, t4, nIa31, nIshl, nIor, or1]
          rw [hV]
    · intro c h5 h6
      rw [hV, gIr _ _ _ h6, gIr _ _ _ h5, wS_off σ _ w st h d 0 h5]
    · intro w' st' h' d' q1 q2 q3 q4
      rw [hV]
      by_cases ee : hP w' st' h' d' = hP w st h d
      · right
        have e' := ee
        unfold hP at ee
        have : w' = w ∧ st' = st ∧ h' = h ∧ d' = d := by omega
        obtain ⟨rfl, rfl, rfl, rfl⟩ := this
        exact gI_ss _ _ _ _
      · rw [gI_sk _ _ _ (show hP w' st' h' d' ≠ ((w * 8 + st) * 10 + h) * 10 + d from ee), gIr _ _ _ (by omega), wS_off σ _ w st h d 0 (by omega)]
        exact hH w' st' h' d' q1 q2 q3 q4
  · refine ⟨σ, ?_, fun _ _ _ => rfl, hH⟩
    have e : gI σ (mo k + 6) (((w * 8 + st) * 10 + h) * 10 + d) = nI (hI A w st h d) := e
    unfold f_X3_hourBy
    simp (disch := omega) only [lt_eq, bd_some, bv_some, li, pk_mul, nI_add, nIsub, nIlt, nIle, nIeq, nIdiv, nIrem, neg_, pos_, ib_nI, gd_true, nI_tn, gI_ss, gI_sk, gI_sc, ↓reduceIte, nIn1b, e]
/-! AN HOUR of the model -/
theorem m_fast {μ : Mem} {k : Nat} {A : Mil} (hM : mM (gI μ 1) k A) (hk : k < 5) {w st h d : Nat} (hw : w < 6) (hs : st < 8) (hh : h < 10) (hd : d < 10) : ∃ μ', f_X12_fast (nI k) (nI w) (nI st) (nI h) (nI d) μ = some (nI (hF A w st h d), μ') ∧ nm6 (gI μ' 3) = sgn w st h d (hF A w st h d) ∧ (∀ c, c ≠ 3 → c ≠ 4 → gI μ' c = gI μ c) ∧ μ'.2 = μ.2 := by
  have hMM := hM
  obtain ⟨b1, b2, b3, b4, c8, c9, c10, hGi⟩ := hM
  have g0 := b1 0 (sgn w st h d 0)
  obtain ⟨τ, t1, t2, t3⟩ := m_tog (kd := 0) hMM (τ := wS μ 3 w st h d 0) (wS_off μ _ w st h d 0 (by omega)) (wS_sgn0 _ _ _ _ _ _ _) (by omega)
  have ew : sI (sI (sI (sI (sI (sI μ 3 0 (nI w)) 3 1 (nI (st / 2))) 3 2 (nI (st % 2))) 3 3 (nI h)) 3 4 (nI d)) 3 5 (nI 0) = wS μ 3 w st h d 0 := rfl
  have ef : hF A w st h d = min 99 (A.1 0 (sgn w st h d 0)) := rfl
  refine ⟨sI τ 3 5 (nI (hF A w st h d)), ?_, ?_, fun c h3 h4 => ?_, ?_⟩
  · unfold f_X12_fast
    by_cases q : A.1 0 (sgn w st h d 0) ≤ 99
    · rw [ef, Nat.min_eq_right q]
      simp (disch := omega) only [lt_eq, bd_some, bv_some, li, pk_mul, nI_add, nIsub, nIlt, nIle, nIeq, nIdiv, nIrem, neg_, pos_, ib_nI, gd_true, nI_tn, gI_ss, gI_sk, gI_sc, ↓reduceIte, nIn1b, ew, t1]
    · rw [ef, Nat.min_eq_left (by omega)]
      simp (disch := omega) only [lt_eq, bd_some, bv_some, li, pk_mul, nI_add, nIsub, nIlt, nIle, nIeq, nIdiv, nIrem, neg_, pos_, ib_nI, gd_true, nI_tn, gI_ss, gI_sk, gI_sc, ↓reduceIte, nIn1b, ew, t1]
  · rw [← wS_sgn μ 3 w st h d 0 (hF A w st h d)]
    funext j
    unfold nm6
    rw [gI_s, gI_s, t2 3 (by omega)]
  · rw [gIr _ _ _ h3, t2 c h4, wS_off μ _ w st h d 0 h3]
  · exact t3
theorem m_hourOf {μ : Mem} {k : Nat} {A : Mil} (hM : mM (gI μ 1) k A) (hk : k < 5) {w st h d : Nat} (hw : w < 6) (hs : st < 8) (hh : h < 10) (hd : d < 10) : ∃ μ', f_X12_hourOf (nI k) (nI w) (nI st) (nI h) (nI d) μ = some μ' ∧ gI μ' 0 11 = bI (hAw A w st h d) ∧ gI μ' 0 12 = bI (hBu A w st h d) ∧ gI μ' 0 13 = gN A w st h d ∧ gI μ' 0 14 = nI (hHe A w st h d) ∧ gI μ' 0 15 = nI (hDu A w st h d) ∧ (∀ c, c ≠ 0 → c ≠ 3 → c ≠ 4 → gI μ' c = gI μ c) ∧ (∀ j, (j < 11 ∨ 15 < j) → gI μ' 0 j = gI μ 0 j) ∧ μ'.2 = μ.2 := by
  have hMM := hM
  obtain ⟨b1, b2, b3, b4, c8, c9, c10, hGi⟩ := hM
  obtain ⟨ν, f1, f2, f3, f4⟩ := m_fast hMM hk hw hs hh hd
  have n9 : gI ν 1 (136 + k) = nI A.2.2.1 := by rw [f3 1 (by omega) (by omega)]; exact c9
  have n10 : gI ν 1 (141 + k) = nI A.2.2.2 := by rw [f3 1 (by omega) (by omega)]; exact c10
  have fl := hF_le A w st h d
  have g1 : hG A 1 w st h d ≤ 990 := b1 _ _
  have g2 : hG A 2 w st h d ≤ 990 := b1 _ _
  have g3 : hG A 3 w st h d ≤ 990 := b1 _ _
  by_cases qa : hAw A w st h d = true
  · have qb := hBu_aw qa
    have qa2 : A.2.2.1 < hF A w st h d := of_decide_eq_true qa
    have e1 : hHe A w st h d = h := if_pos qa
    have e2 : hDu A w st h d = d := if_pos qa
    have e3 : gN A w st h d = -1 := if_pos qa
    refine ⟨sI (sI (sI (sI (sI ν 0 11 (nI 1)) 0 12 (nI 0)) 0 13 (-1)) 0 14 (nI h)) 0 15 (nI d), ?_, ?_, ?_, ?_, ?_, ?_, fun c h0 h3 h4 => ?_, fun j hj => ?_, f4⟩
    · unfold f_X12_hourOf f_X12_hourOf_34 f_X12_hourOf_64 f_X12_hourOf_65 f_X12_hourOf_97 f_X12_hourOf_136
      simp (disch := omega) only [lt_eq, bd_some, bv_some, li, pk_mul, nI_add, nIsub, nIlt, nIle, nIeq, nIdiv, nIrem, neg_, pos_, ib_nI, gd_true, nI_tn, gI_ss, gI_sk, gI_sc, ↓reduceIte, nIn1b, f1, n9, iz_0n, iz_1n]
    · rw [qa]; rfl
    · rw [qb]; rfl
    · rw [e3]; rfl
    · rw [e1]; rfl
    · rw [e2]; rfl
    · simp (disch := omega) only [gIr, gIrL, f3]
    · rw [← f3 0 (by omega) (by omega)]
      simp (disch := omega) only [gI_ss, gI_sk, gI_sc]
  · have qa2 : ¬ A.2.2.1 < hF A w st h d := fun q => qa (decide_eq_true q)
    have qa0 : hAw A w st h d = false := Bool.eq_false_iff.mpr qa
    have e1 : hHe A w st h d = min 9 (h + hG A 2 w st h d - A.2.1) := if_neg qa
    have e2 : hDu A w st h d = min 9 (d + hG A 3 w st h d) := if_neg qa
    have e3 : gN A w st h d = nI (hMe A w st h d) := if_neg qa
    -- from the meal on
    have rest : ∀ (ξ : Mem) (v : Nat) (bu : Bool), v = hMe A w st h d → bu = hBu A w st h d → (∀ c, c ≠ 0 → c ≠ 4 → gI ξ c = gI ν c) → (∀ j, (j < 11 ∨ 15 < j) → gI ξ 0 j = gI ν 0 j) → ξ.2 = ν.2 → gI ξ 0 11 = nI 0 → gI ξ 0 12 = bI bu →
        ∃ μ', f_X12_hourOf_97 (nI k) (nI h) (nI d) (nI v) ξ = some μ' ∧ gI μ' 0 11 = bI (hAw A w st h d) ∧ gI μ' 0 12 = bI (hBu A w st h d) ∧ gI μ' 0 13 = gN A w st h d ∧ gI μ' 0 14 = nI (hHe A w st h d) ∧ gI μ' 0 15 = nI (hDu A w st h d) ∧ (∀ c, c ≠ 0 → c ≠ 3 → c ≠ 4 → gI μ' c = gI μ c) ∧ (∀ j, (j < 11 ∨ 15 < j) → gI μ' 0 j = gI μ 0 j) ∧ μ'.2 = μ.2 := by
      intro ξ v bu hv hbu x1 x2 x3 x4 x5
      have w1 : gI ξ 1 = gI μ 1 := by rw [x1 1 (by omega) (by omega), f3 1 (by omega) (by omega)]
      have w3 : nm6 (gI ξ 3) = sgn w st h d (hF A w st h d) := by rw [x1 3 (by omega) (by omega)]; exact f2
      obtain ⟨τ2, t1, t2, t3⟩ := m_tog (kd := 2) (sg := sgn w st h d (hF A w st h d)) hMM (τ := sI ξ 0 13 (nI v)) (by rw [gIr _ _ _ (by omega)]; exact w1) (by rw [gIr _ _ _ (by omega)]; exact w3) (by omega)
      have y11 : gI τ2 0 11 = nI 0 := by rw [t2 0 (by omega)]; simp (disch := omega) only [gI_ss, gI_sk, gI_sc]; exact x4
      have y131 : gI τ2 1 (131 + k) = nI A.2.1 := by rw [t2 1 (by omega), gIr _ _ _ (by omega), w1]; exact c8
      have s2 : ∀ X, f_X12_held (nI (h + hG A 2 w st h d) - nI A.2.1) X = some (nI (min 9 (h + hG A 2 w st h d - A.2.1)), X) := fun X => held_sub (by omega) (by omega) X
      have s3 : ∀ X, f_X12_held (nI (d + hG A 3 w st h d)) X = some (nI (min 9 (d + hG A 3 w st h d)), X) := fun X => held_n (by omega) X
      obtain ⟨τ3, u1, u2, u3⟩ := m_tog (kd := 3) (sg := sgn w st h d (hF A w st h d)) hMM (τ := sI τ2 0 14 (nI (min 9 (h + hG A 2 w st h d - A.2.1)))) (by rw [gIr _ _ _ (by omega), t2 1 (by omega), gIr _ _ _ (by omega)]; exact w1) (by rw [gIr _ _ _ (by omega), t2 3 (by omega), gIr _ _ _ (by omega)]; exact w3) (by omega)
      have t1 : f_X12_together (nI k) (nI 2) (sI ξ 0 13 (nI v)) = some (nI (hG A 2 w st h d), τ2) := t1
      have u1 : f_X12_together (nI k) (nI 3) (sI τ2 0 14 (nI (min 9 (h + hG A 2 w st h d - A.2.1)))) = some (nI (hG A 3 w st h d), τ3) := u1
      have z : ∀ j, j ≠ 15 → gI (sI τ3 0 15 (nI (min 9 (d + hG A 3 w st h d)))) 0 j = gI (sI (sI ξ 0 13 (nI v)) 0 14 (nI (min 9 (h + hG A 2 w st h d - A.2.1)))) 0 j := fun j hj => by
        rw [gI_sk _ _ _ hj, u2 0 (by omega), gI_s, gI_s (sI ξ 0 13 (nI v)), t2 0 (by omega)]
      refine ⟨sI τ3 0 15 (nI (min 9 (d + hG A 3 w st h d))), ?_, ?_, ?_, ?_, ?_, ?_, fun c h0 h3 h4 => ?_, fun j hj => ?_, ?_⟩
      · unfold f_X12_hourOf_97 f_X12_hourOf_136
        simp (disch := omega) only [lt_eq, bd_some, bv_some, li, pk_mul, nI_add, nIsub, nIlt, nIle, nIeq, nIdiv, nIrem, neg_, pos_, ib_nI, gd_true, nI_tn, gI_ss, gI_sk, gI_sc, ↓reduceIte, nIn1b, x4, t1, y131, s2, y11, u1, s3]
      · rw [z 11 (by omega), qa0]; simp (disch := omega) only [gI_ss, gI_sk, gI_sc]; exact x4
      · rw [z 12 (by omega), ← hbu]; simp (disch := omega) only [gI_ss, gI_sk, gI_sc]; exact x5
      · rw [z 13 (by omega), e3, ← hv]; simp (disch := omega) only [gI_ss, gI_sk, gI_sc]
      · rw [z 14 (by omega), e1]; simp (disch := omega) only [gI_ss, gI_sk, gI_sc]
      · rw [e2]; simp (disch := omega) only [gI_ss, gI_sk, gI_sc]
      · rw [gIr _ _ _ h0, u2 c h4, gIr _ _ _ h0, t2 c h4, gIr _ _ _ h0, x1 c h0 h4, f3 c h3 h4]
      · rw [z j (by omega), ← f3 0 (by omega) (by omega), ← x2 j hj]; simp (disch := omega) only [gI_ss, gI_sk, gI_sc]
      · exact u3.trans (t3.trans (x3.trans f4))
    by_cases qb : A.2.2.2 ≤ h
    · have qb1 : hBu A w st h d = true := by
        unfold hBu
        rw [qa0, decide_eq_true qb]
        rfl
      have em : hMe A w st h d = 0 := if_pos (Or.inr qb1)
      obtain ⟨μ', r1, r2⟩ := rest (sI (sI ν 0 11 (nI 0)) 0 12 (nI 1)) 0 true em.symm qb1.symm (fun c h0 _ => by simp (disch := omega) only [gIr, gIrL]) (fun j hj => by simp (disch := omega) only [gI_ss, gI_sk, gI_sc]) rfl (by simp (disch := omega) only [gI_ss, gI_sk, gI_sc]) (by simp (disch := omega) only [gI_ss, gI_sk, gI_sc]; rfl)
      refine ⟨μ', ?_, r2⟩
      rw [← r1]
      unfold f_X12_hourOf f_X12_hourOf_34 f_X12_hourOf_65
      simp (disch := omega) only [lt_eq, bd_some, bv_some, li, pk_mul, nI_add, nIsub, nIlt, nIle, nIeq, nIdiv, nIrem, neg_, pos_, ib_nI, gd_true, nI_tn, gI_ss, gI_sk, gI_sc, ↓reduceIte, nIn1b, f1, n9, n10, iz_0n, iz_1n]
    · have qb1 : hBu A w st h d = false := by
        unfold hBu
        rw [decide_eq_false qb, Bool.and_false]
      have em : hMe A w st h d = hG A 1 w st h d := if_neg (by rw [qb1, qa0]; decide)
      obtain ⟨τ1, t1, t2, t3⟩ := m_tog (kd := 1) (sg := sgn w st h d (hF A w st h d)) hMM (τ := sI (sI ν 0 11 (nI 0)) 0 12 (nI 0)) (by simp (disch := omega) only [gIr, gIrL]; rw [f3 1 (by omega) (by omega)]) (by simp (disch := omega) only [gIr, gIrL]; exact f2) (by omega)
      have t1 : f_X12_together (nI k) (nI 1) (sI (sI ν 0 11 (nI 0)) 0 12 (nI 0)) = some (nI (hG A 1 w st h d), τ1) := t1
      obtain ⟨μ', r1, r2⟩ := rest τ1 (hG A 1 w st h d) false em.symm qb1.symm (fun c h0 h4 => by rw [t2 c h4]; simp (disch := omega) only [gIr, gIrL]) (fun j hj => by rw [t2 0 (by omega)]; simp (disch := omega) only [gI_ss, gI_sk, gI_sc]) t3 (by rw [t2 0 (by omega)]; simp (disch := omega) only [gI_ss, gI_sk, gI_sc]) (by rw [t2 0 (by omega)]; simp (disch := omega) only [gI_ss, gI_sk, gI_sc]; rfl)
      refine ⟨μ', ?_, r2⟩
      rw [← r1]
      unfold f_X12_hourOf f_X12_hourOf_34 f_X12_hourOf_64 f_X12_hourOf_65
      simp (disch := omega) only [lt_eq, bd_some, bv_some, li, pk_mul, nI_add, nIsub, nIlt, nIle, nIeq, nIdiv, nIrem, neg_, pos_, ib_nI, gd_true, nI_tn, gI_ss, gI_sk, gI_sc, ↓reduceIte, nIn1b, f1, n9, n10, iz_0n, iz_1n, t1]
