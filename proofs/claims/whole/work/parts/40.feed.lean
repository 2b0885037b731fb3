/-! FEED: a byte of a long -/
theorem mod_and_ (z : Int64) : (z &&& 255).toInt32 = nI (z.toBitVec.toNat % 2 ^ 8) := by
  apply Int32.toBitVec_inj.mp
  apply BitVec.eq_of_toNat_eq
  rw [pk_tn (by omega)]
  rw [Int64.toBitVec_toInt32, BitVec.signExtend_eq_setWidth_of_le _ (by omega), Int64.toBitVec_and, BitVec.toNat_setWidth, BitVec.toNat_and, show (255 : Int64).toBitVec.toNat = 2 ^ 8 - 1 from by decide, Nat.and_two_pow_sub_one_eq_mod]
  omega
theorem low8_ (V : Int32) : V.toInt8.toInt32 &&& 255 = nI (V.toBitVec.toNat % 2 ^ 8) := by
  rw [pk_and _ 8 (by decide)]
  congr 1
  have e : V.toInt8.toInt32.toInt8 = V.toInt8 := by simp
  have e2 := congrArg (fun z => z.toBitVec.toNat) e
  have e3 : ∀ z : Int32, z.toInt8.toBitVec.toNat = z.toBitVec.toNat % 2 ^ 8 := fun z => by
    rw [Int32.toBitVec_toInt8, BitVec.signExtend_eq_setWidth_of_le _ (by omega), BitVec.toNat_setWidth]
  simp only [e3] at e2
  exact e2
theorem ssh_ (X : BitVec 64) (s : Nat) (hs : s ≤ 56) : (X.sshiftRight s).toNat % 2 ^ 8 = X.toNat / 2 ^ s % 2 ^ 8 := by
  apply Nat.eq_of_testBit_eq
  intro i
  rw [Nat.testBit_mod_two_pow, Nat.testBit_mod_two_pow, Nat.testBit_div_two_pow]
  by_cases hi : i < 8
  · rw [BitVec.testBit_toNat, BitVec.testBit_toNat, BitVec.getLsbD_sshiftRight]
    rw [if_pos (by omega), decide_eq_false (show ¬ 64 ≤ i by omega), Nat.add_comm]
    simp
  · rw [decide_eq_false hi]
    rfl
theorem byte_ (x : Int64) {k : Nat} (hk : k < 8) : ((((x.toUInt64 >>> (((8 : Int32) * nI k).toInt64.toUInt64 &&& Int64.toUInt64 63)).toInt64).toInt32).toInt8.toInt32).toInt8.toInt32 &&& 255 = ((x >>> (((8 : Int32) * nI k).toInt64 &&& 63)) &&& (255 : Int64)).toInt32 := by
  have e0 : ∀ V : Int32, (V.toInt8.toInt32).toInt8.toInt32 = V.toInt8.toInt32 := fun V => by simp
  rw [e0, low8_, mod_and_]
  congr 1
  have h1 : ∀ q : Fin 8, ((((8 : Int32) * nI q.val).toInt64.toUInt64 &&& Int64.toUInt64 63).toBitVec % 64).toNat = 8 * q.val := by decide +kernel
  have h2 : ∀ q : Fin 8, ((((8 : Int32) * nI q.val).toInt64 &&& 63).toBitVec.smod 64).toNat = 8 * q.val := by decide +kernel
  have h1 := h1 ⟨k, hk⟩
  have h2 := h2 ⟨k, hk⟩
  have a1 : (x >>> (((8 : Int32) * nI k).toInt64 &&& 63)).toBitVec.toNat % 2 ^ 8 = x.toBitVec.toNat / 2 ^ (8 * k) % 2 ^ 8 := by
    show (x.toBitVec.sshiftRight ((((8 : Int32) * nI k).toInt64 &&& 63).toBitVec.smod 64).toNat).toNat % 2 ^ 8 = _
    rw [h2, ssh_ _ _ (by omega)]
  have a2 : ((x.toUInt64 >>> (((8 : Int32) * nI k).toInt64.toUInt64 &&& Int64.toUInt64 63)).toInt64).toInt32.toBitVec.toNat = x.toBitVec.toNat / 2 ^ (8 * k) % 2 ^ 32 := by
    rw [Int64.toBitVec_toInt32, BitVec.signExtend_eq_setWidth_of_le _ (by omega), BitVec.toNat_setWidth, UInt64.toBitVec_toInt64, UInt64.toBitVec_shiftRight]
    show (x.toBitVec >>> ((((8 : Int32) * nI k).toInt64.toUInt64 &&& Int64.toUInt64 63).toBitVec % 64).toNat).toNat % 2 ^ 32 = _
    rw [h1, BitVec.toNat_ushiftRight, Nat.shiftRight_eq_div_pow]
  rw [a1, a2]
  omega
theorem byte_le (z : Int64) : le_ ((z &&& (255 : Int64)).toInt32) 255 := ⟨_, by omega, mod_and_ z⟩
theorem feed_loop (p1 : Int64) : ∀ (k fu1 fu2 t : Nat) (σ μ : Mem), k < fu1 → k < fu2 → k ≤ 8 → t + k ≤ 120 → gI μ 1 4 = nI t → sTape (gI σ 3) (gI σ 4) (gI μ 1) → ∃ σ' μ', fx3 f_X9_append_5 fu1 p1 (nI k - 1) σ = some σ' ∧ fx3 f_X12_feed_34 fu2 p1 (nI k - 1) μ = some (nI (t + k), μ') ∧ (∀ c, c ≠ 3 → c ≠ 4 → gI σ' c = gI σ c) ∧ (∀ c, c ≠ 1 → gI μ' c = gI μ c) ∧ (∀ j, j ≠ 4 → (j < 11 ∨ 131 ≤ j) → gI μ' 1 j = gI μ 1 j) ∧ sTape (gI σ' 3) (gI σ' 4) (gI μ' 1) ∧ gI μ' 1 4 = nI (t + k) := by
  intro k
  induction k with
  | zero =>
    intro fu1 fu2 t σ μ h1 h2 h3 h4 h5 h6
    obtain ⟨fu1, rfl⟩ : ∃ z, fu1 = z + 1 := ⟨fu1 - 1, by omega⟩
    obtain ⟨fu2, rfl⟩ : ∃ z, fu2 = z + 1 := ⟨fu2 - 1, by omega⟩
    have e : (nI 0 - 1 : Int32) < 0 := by decide
    refine ⟨σ, μ, ?_, ?_, fun _ _ _ => rfl, fun _ _ => rfl, fun _ _ _ => rfl, h6, h5⟩
    · show f_X9_append_5 (fx3 f_X9_append_5 fu1) _ _ _ = _
      generalize fx3 f_X9_append_5 fu1 = kk
      unfold f_X9_append_5
      rw [if_pos e]
    · show f_X12_feed_34 (fx3 f_X12_feed_34 fu2) _ _ _ = _
      generalize fx3 f_X12_feed_34 fu2 = kk
      unfold f_X12_feed_34
      rw [if_pos e, h5]
      rfl
  | succ k ih =>
    intro fu1 fu2 t σ μ h1 h2 h3 h4 h5 h6
    obtain ⟨fu1, rfl⟩ : ∃ z, fu1 = z + 1 := ⟨fu1 - 1, by omega⟩
    obtain ⟨fu2, rfl⟩ : ∃ z, fu2 = z + 1 := ⟨fu2 - 1, by omega⟩
    obtain ⟨a1, ⟨t', a2, a3, a4⟩, a5⟩ := h6
    have : t' = t := nI_inj (by omega) (by omega) (a3.symm.trans h5)
    subst this
    have q1 : gI σ 3 1 = nI t' := a1.trans h5
    have e : (nI (k + 1) - 1 : Int32) = nI k := nI_pred k
    have e2 : (nI k + -1 : Int32) = nI k - 1 := by rw [Int32.sub_eq_add_neg]
    rw [e]
    obtain ⟨B, hB⟩ : ∃ B, B = ((((p1.toUInt64 >>> (((8 : Int32) * nI k).toInt64.toUInt64 &&& Int64.toUInt64 63)).toInt64).toInt32).toInt8.toInt32).toInt8.toInt32 := ⟨_, rfl⟩
    obtain ⟨C, hC⟩ : ∃ C, C = ((p1 >>> (((8 : Int32) * nI k).toInt64 &&& 63)) &&& (255 : Int64)).toInt32 := ⟨_, rfl⟩
    have hBC : B &&& 255 = C := by rw [hB, hC]; exact byte_ p1 (by omega)
    have hC2 : le_ C 255 := by rw [hC]; exact byte_le _
    have hB2 : B.toInt8.toInt32 = B := by rw [hB]; simp
    have k0 : ¬ nI k < 0 := nI_pos (by omega)
    have n1 : ¬ (120 : Int32) ≤ nI t' := nI_ge (a := t') (b := 120) (by omega) (by omega)
    obtain ⟨σ', μ', i1, i2, i3, i4, i5, i6, i7⟩ := ih fu1 fu2 (t' + 1) (sI (sI σ 4 t' B) 3 1 (nI (t' + 1))) (sI (sI μ 1 (11 + t') C) 1 4 (nI (t' + 1))) (by omega) (by omega) (by omega) (by omega) (by simp (disch := omega) only [gI_ss, gI_sk, gI_sc]) (by
      refine ⟨by simp (disch := omega) only [gI_ss, gI_sk, gI_sc], ⟨t' + 1, by omega, by simp (disch := omega) only [gI_ss, gI_sk, gI_sc], fun j hj => ?_⟩, fun j hj => ?_⟩
      · by_cases hjt : j = t'
        · subst hjt
          refine ⟨?_, ?_⟩
          · simp (disch := omega) only [gI_ss, gI_sk, gI_sc]; exact hBC
          · simp (disch := omega) only [gI_ss, gI_sk, gI_sc]; exact hC2
        · have a4 := a4 j (by omega)
          refine ⟨?_, ?_⟩
          · simp (disch := omega) only [gI_ss, gI_sk, gI_sc]; exact a4.1
          · simp (disch := omega) only [gI_ss, gI_sk, gI_sc]; exact a4.2
      · by_cases hjt : j = t'
        · subst hjt
          simp (disch := omega) only [gI_ss, gI_sk, gI_sc]; exact hB2
        · simp (disch := omega) only [gI_ss, gI_sk, gI_sc]; exact a5 j hj)
    refine ⟨σ', μ', ?_, ?_, fun c h1 h2 => ?_, fun c h1 => ?_, fun j h1 h2 => ?_, i6, ?_⟩
    · rw [← i1]
      show f_X9_append_5 (fx3 f_X9_append_5 fu1) _ _ _ = _
      generalize fx3 f_X9_append_5 fu1 = kk
      unfold f_X9_append_5
      rw [← hB, if_neg k0, q1, if_neg n1, e2]
      simp (disch := omega) only [lt_eq, bd_some, bv_some, li, pk_mul, nI_add, nIsub, nIlt, nIle, nIeq, nIdiv, nIrem, neg_, pos_, ib_nI, gd_true, nI_tn, gI_ss, gI_sk, gI_sc, ↓reduceIte, nIn1b, q1]
    · rw [show t' + (k + 1) = t' + 1 + k by omega, ← i2]
      show f_X12_feed_34 (fx3 f_X12_feed_34 fu2) _ _ _ = _
      generalize fx3 f_X12_feed_34 fu2 = kk
      unfold f_X12_feed_34
      rw [← hC, if_neg k0, h5, e2]
      simp (disch := omega) only [lt_eq, bd_some, bv_some, li, pk_mul, nI_add, nIsub, nIlt, nIle, nIeq, nIdiv, nIrem, neg_, pos_, ib_nI, gd_true, nI_tn, gI_ss, gI_sk, gI_sc, ↓reduceIte, nIn1b, h5]
    · rw [i3 c h1 h2]; simp (disch := omega) only [gIr, gIrL]
    · rw [i4 c h1]; simp (disch := omega) only [gIr, gIrL]
    · rw [i5 j h1 h2]; simp (disch := omega) only [gI_ss, gI_sk, gI_sc]
    · rw [i7, show t' + (k + 1) = t' + 1 + k by omega]
theorem op_feed (n : Nat) (σ μ : Mem) (p1 : Int64) (p3 : Int32) (hR : Rel (n + 1) σ μ) : ∃ (r : Int32) (σ1 μ1 : Mem), f_X11_feed p1 p3 σ = some (r, σ1) ∧ f_X12_feed p1 p3 μ = some (r, μ1) ∧ Rel n σ1 μ1 := by
  have hi := rel_idle n σ μ hR
  obtain ⟨hn, Am, M, ⟨g1, g2, g3, g4, g5, g6, g7, g8, g9, g10⟩, hH, hI, hp, hm, ha⟩ := hR
  have g40 := g4
  obtain ⟨t1, ⟨t, t2, t3, t4⟩, t5⟩ := g4
  have t1 : gI σ 3 1 = nI t := t1.trans t3
  have t3 : gI μ 1 4 = nI t := t3
  by_cases h1 : wi p3 1 8 = 0
  · exact ⟨-2, σ, μ, by simp only [bd_some, bv_some, lt_eq, ↓reduceIte, f_X11_feed, c_within, h1], by simp only [bd_some, bv_some, lt_eq, ↓reduceIte, f_X12_feed, m_within, h1], hi⟩
  obtain ⟨k, k1, k2, rfl⟩ := wi_nat (lo := 1) (hi := 8) h1 (by omega) (by omega)
  by_cases h2 : ¬ t + k ≤ 120
  · refine ⟨-4, σ, μ, ?_, ?_, hi⟩
    · simp only [bd_some, bv_some, lt_eq, ↓reduceIte, f_X11_feed, c_within, h1, t1]
      simp (disch := omega) only [lt_eq, bd_some, bv_some, li, pk_mul, nI_add, nIsub, nIlt, nIle, nIeq, nIdiv, nIrem, neg_, pos_, ib_nI, gd_true, nI_tn, gI_ss, gI_sk, gI_sc, ↓reduceIte, nIn1b]
    · simp only [bd_some, bv_some, lt_eq, ↓reduceIte, f_X12_feed, m_within, h1, t3]
      simp (disch := omega) only [lt_eq, bd_some, bv_some, li, pk_mul, nI_add, nIsub, nIlt, nIle, nIeq, nIdiv, nIrem, neg_, pos_, ib_nI, gd_true, nI_tn, gI_ss, gI_sk, gI_sc, ↓reduceIte, nIn1b]
  have hf : 8 < FU := by decide
  obtain ⟨σ', μ', i1, i2, i3, i4, i5, i6, i7⟩ := feed_loop p1 k FU FU t σ μ (by omega) (by omega) k2 (by omega) t3 g40
  have hle : nI t + nI k ≤ (120 : Int32) := by rw [nI_add]; exact nI_le (a := t + k) (b := 120) (by omega) (by omega)
  have hc : f_X11_feed p1 (nI k) σ = some (nI (t + k), σ') := by
    simp only [bd_some, bv_some, lt_eq, ↓reduceIte, f_X11_feed, c_within, h1, t1, hle, f_X9_append, i1]
    have := i6.1
    rw [i7] at this
    rw [this]
  have hd : f_X12_feed p1 (nI k) μ = some (nI (t + k), μ') := by
    simp only [bd_some, bv_some, lt_eq, ↓reduceIte, f_X12_feed, m_within, h1, t3, hle, i2]
  refine ⟨_, _, _, hc, hd, by omega, Am, M, ⟨g1, ?_, ?_, i6, ?_, ?_, ?_, ?_, ?_, ?_⟩, ?_, ?_, ?_, ?_, ?_⟩
  · rw [i3 2 (by omega) (by omega)]; exact g2
  · rw [i5 0 (by omega) (by omega)]; exact g3
  · rw [i3 (2 + 4) (by omega) (by omega)]
    exact sWinds_m g5 (fun j hj => i5 j (by omega) (by omega))
  · rw [i3 (2 + 5) (by omega) (by omega)]
    exact sLed_m g6 (fun j hj => i5 j (by omega) (by omega))
  · rw [i3 (2 + 6) (by omega) (by omega), i3 (2 + 7) (by omega) (by omega), i3 (2 + 8) (by omega) (by omega), i3 (2 + 9) (by omega) (by omega), i3 (2 + 10) (by omega) (by omega)]
    exact sRules_m g7 (fun j hj => i5 j (by omega) (by omega))
  · rw [i3 (2 + 11) (by omega) (by omega), i3 (2 + 12) (by omega) (by omega), i3 (2 + 13) (by omega) (by omega)]
    exact sDay_m g8 (fun j hj => i5 j (by omega) (by omega))
  · rw [i3 (2 + 14) (by omega) (by omega), i3 (2 + 15) (by omega) (by omega), i3 (2 + 16) (by omega) (by omega), i3 (2 + 17) (by omega) (by omega), i3 (2 + 18) (by omega) (by omega)]
    exact sOrders_m g9 (fun j hj => i5 j (by omega) (by omega))
  · exact sMills_c (sMills_m g10 g1 (fun j hj => i5 j (by omega) (by omega))) g1 (fun c h1 h2 => i3 c (by omega) (by omega))
  · exact fun k hk => cHours_c (hH k hk) (by omega) (fun c h1 h2 => i3 c (by omega) (by omega))
  · exact rIm_c hI (by omega) (by rw [i3 0 (by omega) (by omega)]) (by rw [i4 0 (by omega)]) (by rw [i4 2 (by omega)]) (fun c h1 h2 => i3 c (by omega) (by omega)) (fun c h1 h2 => i3 c (by omega) (by omega))
  · exact rPl_up hp (by omega) (by rw [i3 41 (by omega) (by omega)]) (by rw [i3 41 (by omega) (by omega)]) (i3 42 (by omega) (by omega)) (i3 43 (by omega) (by omega)) (i3 45 (by omega) (by omega)) (fun j hj => i5 j (by omega) (by omega))
  · exact rMs_up hm (by omega) (by rw [i4 0 (by omega)]) (by rw [i4 0 (by omega)]) (i4 5 (by omega)) (i4 10 (by omega)) (i4 11 (by omega))
  · exact rAc_same ha (by rw [i3 46 (by omega) (by omega)]) (i3 47 (by omega) (by omega)) (by rw [i4 0 (by omega)]) (i4 15 (by omega))
