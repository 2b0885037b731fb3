/-! WHAT A QUESTION LEAVES -/
theorem sAll_q {a a' : Nat → Nat → Int32} {B M : Nat} {s : Nat → Int32} {Am : Nat → Mil} (h : sAll a B s M Am) (e : ∀ c, B ≤ c → c < B + 19 → a' c = a c) (e2 : ∀ k, k < M → a' (mo k) = a (mo k) ∧ ∀ i, 1 ≤ i → i ≤ 4 → a' (mo k + i) = a (mo k + i)) : sAll a' B s M Am := by
  obtain ⟨h1, h2, h3, h4, h5, h6, h7, h8, h9, h10⟩ := h
  refine ⟨h1, by rw [e B (by omega) (by omega)]; exact h2, h3, ?_, ?_, ?_, ?_, ?_, ?_, fun k hk => sMill_c (h10 k hk) (fun j _ _ => by rw [(e2 k hk).1]) (e2 k hk).2⟩
  · rw [e (B + 1) (by omega) (by omega), e (B + 2) (by omega) (by omega)]; exact h4
  · rw [e (B + 4) (by omega) (by omega)]; exact h5
  · rw [e (B + 5) (by omega) (by omega)]; exact h6
  · rw [e (B + 6) (by omega) (by omega), e (B + 7) (by omega) (by omega), e (B + 8) (by omega) (by omega), e (B + 9) (by omega) (by omega), e (B + 10) (by omega) (by omega)]; exact h7
  · rw [e (B + 11) (by omega) (by omega), e (B + 12) (by omega) (by omega), e (B + 13) (by omega) (by omega)]; exact h8
  · rw [e (B + 14) (by omega) (by omega), e (B + 15) (by omega) (by omega), e (B + 16) (by omega) (by omega), e (B + 17) (by omega) (by omega), e (B + 18) (by omega) (by omega)]; exact h9
theorem rIm_q {a a' b b' : Nat → Nat → Int32} {M : Nat} {Am : Nat → Mil} (h : rIm a b M Am) (e0 : a' 0 6 = a 0 6) (e1 : b' 0 3 = b 0 3) (e2 : b' 2 = b 2) (e3 : ∀ c, 21 ≤ c → c < 40 → a' c = a c) (e4 : ∀ k, k < M → a' (mo k) = a (mo k) ∧ ∀ i, 1 ≤ i → i ≤ 4 → a' (mo k + i) = a (mo k + i)) : rIm a' b' M Am := by
  unfold rIm
  rw [e0, e1, e2]
  rcases h with h | ⟨h1, h2, Mi, h3, h4⟩
  · exact Or.inl h
  · exact Or.inr ⟨h1, h2, Mi, h3, sAll_q h4 e3 (fun k hk => e4 k (by omega))⟩
theorem rel_go {n : Nat} {σ μ σ' μ' : Mem} {Am : Nat → Mil} {M : Nat} (hn : n + 1 ≤ 64) (hA : sAll (gI σ) 2 (gI μ 1) M Am) (hI : rIm (gI σ) (gI μ) M Am) (ha : rAc (gI σ) (gI μ))
    (c1 : ∀ c, c < 41 → c ≠ 7 → gI σ' c = gI σ c) (c2 : gI σ' 46 = gI σ 46) (c3 : gI σ' 47 = gI σ 47)
    (c4 : ∀ k, k < M → gI σ' (mo k) = gI σ (mo k) ∧ ∀ i, 1 ≤ i → i ≤ 4 → gI σ' (mo k + i) = gI σ (mo k + i))
    (c5 : ∀ k, k < M → cHours (gI σ') k (Am k)) (c6 : rPl (gI σ') (gI μ' 1) M Am (64 - n))
    (m1 : ∀ j, (j < 5 ∨ 10 < j) → gI μ' 1 j = gI μ 1 j) (m2 : gI μ' 2 = gI μ 2) (m3 : gI μ' 15 = gI μ 15) (m4 : gI μ' 0 3 = gI μ 0 3) (m5 : gI μ' 0 35 = gI μ 0 35) (m6 : rMs (gI μ') (64 - n)) (hL : sLed (gI σ' 7) (gI μ' 1) M) : Rel n σ' μ' := by
  obtain ⟨g1, g2, g3, g4, g5, g6, g7, g8, g9, g10⟩ := hA
  refine ⟨by omega, Am, M, ⟨g1, ?_, ?_, ?_, ?_, hL, ?_, ?_, ?_, fun k hk => sMill_c (sMill_m (g10 k hk) (by omega) (fun j hj => m1 j (by omega))) (fun j _ _ => by rw [(c4 k hk).1]) (c4 k hk).2⟩, c5, ?_, c6, m6, ?_⟩
  · rw [c1 2 (by omega) (by omega)]; exact g2
  · rw [m1 0 (by omega)]; exact g3
  · rw [c1 (2 + 1) (by omega) (by omega), c1 (2 + 2) (by omega) (by omega)]
    exact sTape_m g4 (fun j hj => m1 j (by omega))
  · rw [c1 (2 + 4) (by omega) (by omega)]
    exact sWinds_m g5 (fun j hj => m1 j (by omega))
  · rw [c1 (2 + 6) (by omega) (by omega), c1 (2 + 7) (by omega) (by omega), c1 (2 + 8) (by omega) (by omega), c1 (2 + 9) (by omega) (by omega), c1 (2 + 10) (by omega) (by omega)]
    exact sRules_m g7 (fun j hj => m1 j (by omega))
  · rw [c1 (2 + 11) (by omega) (by omega), c1 (2 + 12) (by omega) (by omega), c1 (2 + 13) (by omega) (by omega)]
    exact sDay_m g8 (fun j hj => m1 j (by omega))
  · rw [c1 (2 + 14) (by omega) (by omega), c1 (2 + 15) (by omega) (by omega), c1 (2 + 16) (by omega) (by omega), c1 (2 + 17) (by omega) (by omega), c1 (2 + 18) (by omega) (by omega)]
    exact sOrders_m g9 (fun j hj => m1 j (by omega))
  · exact rIm_q hI (by rw [c1 0 (by omega) (by omega)]) m4 m2 (fun c _ _ => c1 c (by omega) (by omega)) c4
  · exact rAc_same ha (by rw [c2]) c3 m5 m3
theorem rel_ask {n : Nat} {σ μ σ' μ' : Mem} {Am : Nat → Mil} {M : Nat} (hn : n + 1 ≤ 64) (hA : sAll (gI σ) 2 (gI μ 1) M Am) (hI : rIm (gI σ) (gI μ) M Am) (ha : rAc (gI σ) (gI μ))
    (c1 : ∀ c, c < 41 → gI σ' c = gI σ c) (c2 : gI σ' 46 = gI σ 46) (c3 : gI σ' 47 = gI σ 47)
    (c4 : ∀ k, k < M → gI σ' (mo k) = gI σ (mo k) ∧ ∀ i, 1 ≤ i → i ≤ 4 → gI σ' (mo k + i) = gI σ (mo k + i))
    (c5 : ∀ k, k < M → cHours (gI σ') k (Am k)) (c6 : rPl (gI σ') (gI μ 1) M Am (64 - n))
    (m1 : gI μ' 1 = gI μ 1) (m2 : gI μ' 2 = gI μ 2) (m3 : gI μ' 15 = gI μ 15) (m4 : gI μ' 0 3 = gI μ 0 3) (m5 : gI μ' 0 35 = gI μ 0 35) (m6 : rMs (gI μ') (64 - n)) : Rel n σ' μ' :=
  rel_go hn hA hI ha (fun c h _ => c1 c h) c2 c3 c4 c5 (by rw [m1]; exact c6) (fun j _ => by rw [m1]) m2 m3 m4 m5 m6 (by
    rw [c1 7 (by omega), m1]
    exact hA.2.2.2.2.2.1)
/-- only the hours of one mill -/
theorem one_mill {a a' : Nat → Nat → Int32} {M k : Nat} {Am : Nat → Mil} (hH : ∀ j, j < M → cHours a j (Am j)) (e : ∀ c, 48 ≤ c → c ≠ mo k + 5 → c ≠ mo k + 6 → a' c = a c) (e2 : cHours a' k (Am k)) : (∀ j, j < M → a' (mo j) = a (mo j) ∧ ∀ i, 1 ≤ i → i ≤ 4 → a' (mo j + i) = a (mo j + i)) ∧ ∀ j, j < M → cHours a' j (Am j) := by
  refine ⟨fun j hj => ⟨e _ (by unfold mo; omega) (by unfold mo; omega) (by unfold mo; omega), fun i h1 h2 => e _ (by unfold mo; omega) (by unfold mo; omega) (by unfold mo; omega)⟩, fun j hj => ?_⟩
  by_cases hjk : j = k
  · subst hjk
    exact e2
  · intro w st h d q1 q2 q3 q4
    rw [e _ (by unfold mo; omega) (by unfold mo; omega) (by unfold mo; omega)]
    exact hH j hj w st h d q1 q2 q3 q4
theorem op_hour (n : Nat) (σ μ : Mem) (p1 p2 p3 p4 p5 p6 : Int32) (hR : Rel (n + 1) σ μ) : ∃ (r : Int32) (σ1 μ1 : Mem), f_X11_hour p1 p2 p3 p4 p5 p6 σ = some (r, σ1) ∧ f_X12_hour p1 p2 p3 p4 p5 p6 μ = some (r, μ1) ∧ Rel n σ1 μ1 := by
  have hi := rel_idle n σ μ hR
  obtain ⟨hn, Am, M, hA, hH, hI, hp, hm, ha⟩ := hR
  have hM5 := hA.1
  have g2 : gI σ 2 0 = nI M := hA.2.1
  have g3 : gI μ 1 0 = nI M := hA.2.2.1
  have g10 := hA.2.2.2.2.2.2.2.2.2
  by_cases h1 : wi p1 0 (nI M - 1) = 0
  · exact ⟨-1, σ, μ, by simp only [bd_some, bv_some, lt_eq, ↓reduceIte, f_X11_hour, c_isMill, g2, h1], by simp only [bd_some, bv_some, lt_eq, ↓reduceIte, f_X12_hour, m_isMill, g3, h1], hi⟩
  by_cases h2 : wi p2 0 5 = 0
  · exact ⟨-1, σ, μ, by simp only [bd_some, bv_some, lt_eq, ↓reduceIte, f_X11_hour, c_isMill, g2, h1, c_isWind, h2], by simp only [bd_some, bv_some, lt_eq, ↓reduceIte, f_X12_hour, m_isMill, g3, h1, m_isWind, h2], hi⟩
  by_cases h6 : wi p6 0 5 = 0
  · exact ⟨-1, σ, μ, by simp only [bd_some, bv_some, lt_eq, ↓reduceIte, f_X11_hour, c_isMill, g2, h1, c_isWind, h2, c_within, h6], by simp only [bd_some, bv_some, lt_eq, ↓reduceIte, f_X12_hour, m_isMill, g3, h1, m_isWind, h2, m_within, h6], hi⟩
  by_cases h3 : wi p3 0 7 = 0
  · exact ⟨-2, σ, μ, by simp only [bd_some, bv_some, lt_eq, ↓reduceIte, f_X11_hour, c_isMill, g2, h1, c_isWind, h2, c_within, h6, c_isSetting, h3], by simp only [bd_some, bv_some, lt_eq, ↓reduceIte, f_X12_hour, m_isMill, g3, h1, m_isWind, h2, m_within, h6, h3], hi⟩
  by_cases h4 : wi p4 0 9 = 0
  · exact ⟨-2, σ, μ, by simp only [bd_some, bv_some, lt_eq, ↓reduceIte, f_X11_hour, c_isMill, g2, h1, c_isWind, h2, c_within, h6, c_isSetting, h3, h4], by simp only [bd_some, bv_some, lt_eq, ↓reduceIte, f_X12_hour, m_isMill, g3, h1, m_isWind, h2, m_within, h6, h3, h4], hi⟩
  by_cases h5 : wi p5 0 9 = 0
  · exact ⟨-2, σ, μ, by simp only [bd_some, bv_some, lt_eq, ↓reduceIte, f_X11_hour, c_isMill, g2, h1, c_isWind, h2, c_within, h6, c_isSetting, h3, h4, h5], by simp only [bd_some, bv_some, lt_eq, ↓reduceIte, f_X12_hour, m_isMill, g3, h1, m_isWind, h2, m_within, h6, h3, h4, h5], hi⟩
  obtain ⟨k, hk, rfl⟩ := wi_cnt h1 (by omega)
  obtain ⟨w, -, hw, rfl⟩ := wi_nat (lo := 0) (hi := 5) h2 (by omega) (by omega)
  obtain ⟨st, -, hs, rfl⟩ := wi_nat (lo := 0) (hi := 7) h3 (by omega) (by omega)
  obtain ⟨h, -, hh, rfl⟩ := wi_nat (lo := 0) (hi := 9) h4 (by omega) (by omega)
  obtain ⟨d, -, hd, rfl⟩ := wi_nat (lo := 0) (hi := 9) h5 (by omega) (by omega)
  obtain ⟨q, -, hq, rfl⟩ := wi_nat (lo := 0) (hi := 5) h6 (by omega) (by omega)
  have hcM := sMill_cM (g10 k hk)
  have hmM := sMill_mM (g10 k hk)
  have b := hcM.1
  obtain ⟨σ1, s1, s2, s3⟩ := c_hourBy hcM (hH k hk) (show w < 6 by omega) (show st < 8 by omega) (show h < 10 by omega) (show d < 10 by omega)
  obtain ⟨o1, o2⟩ := one_mill hH (fun c _ => s2 c) s3
  have fin : ∀ μ1 : Mem, (∀ c, c ≠ 0 → c ≠ 3 → c ≠ 4 → gI μ1 c = gI μ c) → (∀ j, (j < 11 ∨ 15 < j) → gI μ1 0 j = gI μ 0 j) → Rel n σ1 μ1 := by
    intro μ1 f1 f2
    have u : ∀ c, c < 48 → gI σ1 c = gI σ c := fun c hc => s2 c (by unfold mo; omega) (by unfold mo; omega)
    refine rel_ask (by omega) hA hI ha (fun c hc => u c (by omega)) (u 46 (by omega)) (u 47 (by omega)) o1 o2 ?_ (f1 1 (by omega) (by omega) (by omega)) (f1 2 (by omega) (by omega) (by omega)) (f1 15 (by omega) (by omega) (by omega)) (f2 3 (by omega)) (f2 35 (by omega)) ?_
    · exact rPl_up hp (by omega) (by rw [u 41 (by omega)]) (by rw [u 41 (by omega)]) (u 42 (by omega)) (u 43 (by omega)) (u 45 (by omega)) (fun _ _ => rfl)
    · exact rMs_up hm (by omega) (f2 25 (by omega)) (f2 26 (by omega)) (f1 5 (by omega) (by omega) (by omega)) (f1 10 (by omega) (by omega) (by omega)) (f1 11 (by omega) (by omega) (by omega))
  have ibk : ib (nI k) 5 = true := ib_nI (by omega) (by omega)
  have tk : (nI k).toNatClampNeg = k := nI_tn (by omega)
  by_cases q0 : q = 0
  · subst q0
    obtain ⟨μ1, f1, -, f3, -⟩ := m_fast hmM (by omega) (show w < 6 by omega) (show st < 8 by omega) (show h < 10 by omega) (show d < 10 by omega)
    refine ⟨nI (hF (Am k) w st h d), σ1, μ1, ?_, ?_, fin μ1 (fun c _ h3 h4 => f3 c h3 h4) (fun j _ => by rw [f3 0 (by omega) (by omega)])⟩
    · simp only [bd_some, bv_some, lt_eq, ↓reduceIte, f_X11_hour, c_isMill, g2, h1, c_isWind, h2, c_within, h6, c_isSetting, h3, h4, h5, ibk, gd_true, tk, s1, c_fastOf b w st (show h < 10 by omega) (show d < 10 by omega)]
      rfl
    · simp only [bd_some, bv_some, lt_eq, ↓reduceIte, f_X12_hour, m_isMill, g3, h1, m_isWind, h2, m_within, h6, h3, h4, h5, f1]
      rfl
  · obtain ⟨μ1, f1, v11, v12, v13, v14, v15, f3, f4, -⟩ := m_hourOf hmM (by omega) (show w < 6 by omega) (show st < 8 by omega) (show h < 10 by omega) (show d < 10 by omega)
    have nq : ¬ nI q = 0 := nI_ne0 (by omega) (by omega)
    have eC : f_X11_hour (nI k) (nI w) (nI st) (nI h) (nI d) (nI q) σ = some (if q = 1 then gN (Am k) w st h d else if q = 2 then nI (hHe (Am k) w st h d) else if q = 3 then nI (hDu (Am k) w st h d) else if q = 4 then bI (hBu (Am k) w st h d) else bI (hAw (Am k) w st h d), σ1) := by
      simp only [bd_some, bv_some, lt_eq, ↓reduceIte, f_X11_hour, c_isMill, g2, h1, c_isWind, h2, c_within, h6, c_isSetting, h3, h4, h5, ibk, gd_true, tk, s1, nq]
      rcases (show q = 1 ∨ q = 2 ∨ q = 3 ∨ q = 4 ∨ q = 5 by omega) with rfl | rfl | rfl | rfl | rfl
      · rw [if_pos (by rfl), c_gainOf b w st (by omega) (by omega), bd_some, if_pos rfl]
      · rw [if_neg (by decide), if_pos (by rfl), c_heatOf b w st (by omega) (by omega), bd_some, if_neg (by decide), if_pos rfl]
      · rw [if_neg (by decide), if_neg (by decide), if_pos (by rfl), c_dullOf b w st (by omega) (by omega), bd_some, if_neg (by decide), if_neg (by decide), if_pos rfl]
      · rw [if_neg (by decide), if_neg (by decide), if_neg (by decide), if_pos (by rfl), c_isBurnt b w st (by omega) (by omega), bd_some]
        cases hBu (Am k) w st h d <;> rfl
      · rw [if_neg (by decide), if_neg (by decide), if_neg (by decide), if_neg (by decide), c_isAway b w st (by omega) (by omega), bd_some]
        cases hAw (Am k) w st h d <;> rfl
    have eM : f_X12_hour (nI k) (nI w) (nI st) (nI h) (nI d) (nI q) μ = some (if q = 1 then gN (Am k) w st h d else if q = 2 then nI (hHe (Am k) w st h d) else if q = 3 then nI (hDu (Am k) w st h d) else if q = 4 then bI (hBu (Am k) w st h d) else bI (hAw (Am k) w st h d), μ1) := by
      simp only [bd_some, bv_some, lt_eq, ↓reduceIte, f_X12_hour, m_isMill, g3, h1, m_isWind, h2, m_within, h6, h3, h4, h5, nq, f1, v11, v12, v13, v14, v15]
      rcases (show q = 1 ∨ q = 2 ∨ q = 3 ∨ q = 4 ∨ q = 5 by omega) with rfl | rfl | rfl | rfl | rfl
      · rw [if_pos (by rfl), if_pos rfl]
      · rw [if_neg (by decide), if_pos (by rfl), if_neg (by decide), if_pos rfl]
      · rw [if_neg (by decide), if_neg (by decide), if_pos (by rfl), if_neg (by decide), if_neg (by decide), if_pos rfl]
      · rw [if_neg (by decide), if_neg (by decide), if_neg (by decide), if_pos (by rfl)]
        cases hBu (Am k) w st h d <;> rfl
      · rw [if_neg (by decide), if_neg (by decide), if_neg (by decide), if_neg (by decide)]
        cases hAw (Am k) w st h d <;> rfl
    exact ⟨_, σ1, μ1, eC, eM, fin μ1 f3 f4⟩
