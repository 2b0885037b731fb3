/-! the calls mean, best, dress -/
theorem away_is {σ μ : Mem} {M : Nat} {Am : Nat → Mil} (h : sAll (gI σ) 2 (gI μ 1) M Am) : (gI σ 7 5 = 0 ∧ gI μ 1 10 = 0) ∨ (gI σ 7 5 = 1 ∧ gI μ 1 10 = 1) := by
  obtain ⟨e1, -, -, -, -, q, hq, e9⟩ := h.2.2.2.2.2.1
  have c75 : gI σ 7 5 = gI μ 1 10 := e1 5 (by omega)
  have e9 : gI μ 1 10 = nI q := e9
  rw [c75, e9]
  rcases (show q = 0 ∨ q = 1 by omega) with rfl | rfl
  · exact Or.inl ⟨rfl, rfl⟩
  · exact Or.inr ⟨rfl, rfl⟩
theorem e01_ : ((0 : Int32) = 1) = False := by decide
theorem sub_l {a b : Nat} (ha : a < 2 ^ 30) (hb : b < 2 ^ 30) : (nI a - nI b).toInt64 = lN a - lN b := by
  apply Int64.toInt_inj.mp
  rw [Int32.toInt_toInt64, pk_sub_toInt ha hb, Int64.toInt_sub, lN_toInt (by omega), lN_toInt (by omega)]
  exact (Int.bmod_eq_of_le (by omega) (by omega)).symm
theorem op_mean (n : Nat) (σ μ : Mem) (p1 p2 p3 p4 : Int32) (hR : Rel (n + 1) σ μ) : ∃ (r : Int64) (σ1 μ1 : Mem), f_X11_mean p1 p2 p3 p4 σ = some (r, σ1) ∧ f_X12_mean p1 p2 p3 p4 μ = some (r, μ1) ∧ Rel n σ1 μ1 := by
  have hi := rel_idle n σ μ hR
  obtain ⟨hn, Am, M, hA, hH, hI, hp, hm, ha⟩ := hR
  have hM5 := hA.1
  obtain ⟨d1, D, d2, d3, d4⟩ := hA.2.2.2.2.2.2.1
  have d1 : gI σ 8 4 = nI D := d1.trans d3
  have d3 : gI μ 1 1 = nI D := d3
  by_cases h1 : wi p1 0 (nI D - 1) = 0
  · exact ⟨-9223372036854775808, σ, μ, by simp only [bd_some, bv_some, lt_eq, ↓reduceIte, f_X11_mean, c_isRule, d1, h1], by simp only [bd_some, bv_some, lt_eq, ↓reduceIte, f_X12_mean, m_isRule, d3, h1], hi⟩
  by_cases h2 : wi p2 1 6 = 0
  · exact ⟨-9223372036854775808, σ, μ, by simp only [bd_some, bv_some, lt_eq, ↓reduceIte, f_X11_mean, c_isRule, d1, h1, c_within, h2], by simp only [bd_some, bv_some, lt_eq, ↓reduceIte, f_X12_mean, m_isRule, d3, h1, m_within, h2], hi⟩
  by_cases h3 : wi p3 0 5 = 0
  · exact ⟨-9223372036854775808, σ, μ, by simp only [bd_some, bv_some, lt_eq, ↓reduceIte, f_X11_mean, c_isRule, d1, h1, c_within, h2, c_isWind, h3], by simp only [bd_some, bv_some, lt_eq, ↓reduceIte, f_X12_mean, m_isRule, d3, h1, m_within, h2, m_isWind, h3], hi⟩
  by_cases h4 : wi p4 0 1 = 0
  · exact ⟨-9223372036854775808, σ, μ, by simp only [bd_some, bv_some, lt_eq, ↓reduceIte, f_X11_mean, c_isRule, d1, h1, c_within, h2, c_isWind, h3, h4], by simp only [bd_some, bv_some, lt_eq, ↓reduceIte, f_X12_mean, m_isRule, d3, h1, m_within, h2, m_isWind, h3, h4], hi⟩
  rcases led_is hA with ⟨-, l2, l3⟩ | ⟨k, hk, l5, l7, l2, l3⟩
  · exact ⟨-9223372036854775808, σ, μ, by simp only [bd_some, bv_some, lt_eq, ↓reduceIte, f_X11_mean, c_isRule, d1, h1, c_within, h2, c_isWind, h3, h4, l2], by simp only [bd_some, bv_some, lt_eq, ↓reduceIte, f_X12_mean, m_isRule, d3, h1, m_within, h2, m_isWind, h3, h4, l3], hi⟩
  rcases away_is hA with ⟨a1, a2⟩ | ⟨a1, a2⟩
  · obtain ⟨i, hi1, rfl⟩ := wi_cnt h1 (by omega)
    obtain ⟨N, hN1, hN, rfl⟩ := wi_nat (lo := 1) (hi := 6) h2 (by omega) (by omega)
    obtain ⟨w, -, hw, rfl⟩ := wi_nat (lo := 0) (hi := 5) h3 (by omega) (by omega)
    obtain ⟨q, -, hq, rfl⟩ := wi_nat (lo := 0) (hi := 1) h4 (by omega) (by omega)
    obtain ⟨e1, -, -, ⟨h, hh, e7⟩, ⟨d, hd, e8⟩, -⟩ := hA.2.2.2.2.2.1
    have c72 : gI σ 7 2 = nI h := (e1 2 (by omega)).trans e7
    have c73 : gI σ 7 3 = nI d := (e1 3 (by omega)).trans e8
    have e7 : gI μ 1 7 = nI h := e7
    have e8 : gI μ 1 8 = nI d := e8
    obtain ⟨J, K, j1, j2, j3, j4, j5, j6, j7, j8, j9⟩ := id hp
    obtain ⟨kd, v, row, r1, r2, r3, r4, r5, r6, r7, r8, r9⟩ := rule_ctx (σ := σ) (rl := gI σ 8) d4 hi1 d2
    obtain ⟨σ1, s1, s2, s3, s4, s5⟩ := c_followR hA hH hk (by omega) j5 j7 (j9 k hk l5) (by omega) r1 r2 r5 r6 r7 r8
    obtain ⟨aw, haw⟩ : ∃ aw : Bool, nI q = bI aw := by
      rcases (show q = 0 ∨ q = 1 by omega) with rfl | rfl
      · exact ⟨false, rfl⟩
      · exact ⟨true, rfl⟩
    obtain ⟨σ2, t1, t2, t3, t4, t5, t6⟩ := c_mean_ (aw := aw) (dz := -1) haw s4 s5 (show 0 < N by omega) hN (show w < 6 by omega) (show h < 10 by omega) (show d < 10 by omega) (show K < 5000 by omega) (s3.trans j6) (fun x hx => by rw [s2 45 (by omega)]; exact j8 x hx)
    obtain ⟨μ1, J2, K2, u1, u2, u3, u4, u5, u6, u7, u8⟩ := m_begins hA hk l5 hm (by omega)
    obtain ⟨μ2, v1, v2, v3, v4, v5, v6⟩ := m_meanBy (aw := aw) (dz := -1) haw u6 (ru := nI i) (row := row) (by rw [u4 1 (by omega)]; exact r9) (show 0 < N by omega) hN (show w < 6 by omega) (show h < 10 by omega) (show d < 10 by omega) (show K2 < 5000 by omega) u7 u8 (by rw [u4 1 (by omega)]; exact e7) (by rw [u4 1 (by omega)]; exact e8)
    have hle := mMe_le (hA.2.2.2.2.2.2.2.2.2 k hk).1 (win_ hA.2.2.2.2.1).2 (stK (Am k) (chN (gI μ 1)) kd v row) (-1) aw N 0 w w h d (by omega)
    have ibk : ib (nI k) 5 = true := ib_nI (by omega) (by omega)
    have tk : (nI k).toNatClampNeg = k := nI_tn (by omega)
    have g72 : gI σ1 7 2 = nI h := by rw [s2 7 (by omega)]; exact c72
    have g73 : gI σ1 7 3 = nI d := by rw [s2 7 (by omega)]; exact c73
    refine ⟨lN (mMe (Am k) (chN (gI μ 1)) (stK (Am k) (chN (gI μ 1)) kd v row) (-1) aw N 0 w w h d), σ2, μ2, ?_, ?_, ?_⟩
    · simp only [bd_some, bv_some, lt_eq, ↓reduceIte, f_X11_mean, c_isRule, d1, h1, c_within, h2, c_isWind, h3, h4, l2, e10_, a1, l7, ibk, gd_true, tk]
      rw [s1, g72, g73]
      have fin : ∀ r : Option (Int32 × Mem), r = some (nI (mMe (Am k) (chN (gI μ 1)) (stK (Am k) (chN (gI μ 1)) kd v row) (-1) aw N 0 w w h d), σ2) → (bd r fun r_30 σ_31 => some (r_30.toInt64, σ_31)) = some (lN (mMe (Am k) (chN (gI μ 1)) (stK (Am k) (chN (gI μ 1)) kd v row) (-1) aw N 0 w w h d), σ2) := fun r hr => by
        rw [hr, bd_some, nI_l]
        generalize mMe (Am k) (chN (gI μ 1)) (stK (Am k) (chN (gI μ 1)) kd v row) (-1) aw N 0 w w h d = z at *
        omega
      rcases (show q = 0 ∨ q = 1 by omega) with rfl | rfl
      · rw [if_pos (by rfl)]
        exact fin _ t1
      · rw [if_neg (by decide)]
        exact fin _ t1
    · have ex : (887 : Int32) + nI i = nI (887 + i) := nI_add 887 i
      have ey : (897 : Int32) + nI i = nI (897 + i) := nI_add 897 i
      have ibx : ib (nI (887 + i)) 1055 = true := ib_nI (by omega) (by omega)
      have iby : ib (nI (897 + i)) 1055 = true := ib_nI (by omega) (by omega)
      have tx : (nI (887 + i)).toNatClampNeg = 887 + i := nI_tn (by omega)
      have ty : (nI (897 + i)).toNatClampNeg = 897 + i := nI_tn (by omega)
      have z1 : gI μ1 1 (887 + i) = nI kd := by rw [u4 1 (by omega)]; exact r3
      have z2 : gI μ1 1 (897 + i) = nI v := by rw [u4 1 (by omega)]; exact r4
      simp only [bd_some, bv_some, lt_eq, ↓reduceIte, f_X12_mean, m_isRule, d3, h1, m_within, h2, m_isWind, h3, h4, l3, e10_, a2, e01_, u1, ex, ey, ibx, iby, gd_true, tx, ty, z1, z2, f_X12_mean_99]
      rcases (show q = 0 ∨ q = 1 by omega) with rfl | rfl
      · rw [if_neg (by decide), show (0 : Int32) = nI 0 from rfl, v1, bd_some]
      · have v1 : f_X12_meanBy (nI kd) (nI v) (nI i) (nI N) (nI w) (-1 : Int32) (1 : Int32) μ1 = _ := v1
        rw [if_pos (by rfl), v1, bd_some]
    · refine rel_plan (k := k) (J := J) (K := K + 1) (J2 := J2) (K2 := K2 + 1) (by omega) hA hI ha l5 t3 j1 (by omega) (by omega) (by omega) t5 t6 ?_ ?_ ?_ ?_ ?_ v4 (by omega) (by omega) v5 v6
      · exact fun c h1 h2 => (t2.1 c h1 h2).trans (s2 c (by omega))
      · exact fun j hj => ⟨(t2.2.1 j hj).1.trans (s2 _ (by unfold mo; omega)), fun x a b => ((t2.2.1 j hj).2 x a b).trans (s2 _ (by unfold mo; omega))⟩
      · exact fun c hc => (v2 c (by omega)).trans (u4 c (by omega))
      · exact (v3 3 (by omega) (by omega) (by omega)).trans (u5 3 (by omega) (by omega))
      · exact (v3 35 (by omega) (by omega) (by omega)).trans (u5 35 (by omega) (by omega))
  · exact ⟨0, σ, μ, by simp only [bd_some, bv_some, lt_eq, ↓reduceIte, f_X11_mean, c_isRule, d1, h1, c_within, h2, c_isWind, h3, h4, l2, e10_, a1], by simp only [bd_some, bv_some, lt_eq, ↓reduceIte, f_X12_mean, m_isRule, d3, h1, m_within, h2, m_isWind, h3, h4, l3, e10_, a2], hi⟩
/-- the class begins -/
theorem c_begin_ {σ : Mem} {s : Nat → Int32} {M : Nat} {Am : Nat → Mil} {k J : Nat} (hA : sAll (gI σ) 2 s M Am) (hH : ∀ j, j < M → cHours (gI σ) j (Am j)) (hk : k < M) (hJ : J < 1000) (h4 : gI σ 41 4 = nI J) (h43 : ∀ i, i < 4200 → le_ (gI σ 43 i) J) (hB : cBest (gI σ) J (Am k) (chN s)) :
    ∃ σ', f_X5_begin (mo k) σ = some σ' ∧ (∀ c, c ≠ 41 → gI σ' c = gI σ c) ∧ gI σ' 41 5 = gI σ 41 5 ∧ cI0 M Am k J (chN s) σ' := by
  have r : ∀ c, c ≠ 41 → gI (sI (sI σ 41 6 (nI (mo k))) 41 7 (nI 5)) c = gI σ c := fun c hc => by simp (disch := omega) only [gIr, gIrL]
  exact ⟨sI (sI σ 41 6 (nI (mo k))) 41 7 (nI 5), rfl, r, by simp (disch := omega) only [gI_ss, gI_sk, gI_sc], cI0_of hA hH hk hJ h43 hB r (by simp (disch := omega) only [gI_ss, gI_sk, gI_sc]) (by simp (disch := omega) only [gI_ss, gI_sk, gI_sc]) (by simp (disch := omega) only [gI_ss, gI_sk, gI_sc]; exact h4)⟩
theorem op_best (n : Nat) (σ μ : Mem) (p1 p2 p3 : Int32) (hR : Rel (n + 1) σ μ) : ∃ (r : Int64) (σ1 μ1 : Mem), f_X11_best p1 p2 p3 σ = some (r, σ1) ∧ f_X12_best p1 p2 p3 μ = some (r, μ1) ∧ Rel n σ1 μ1 := by
  have hi := rel_idle n σ μ hR
  obtain ⟨hn, Am, M, hA, hH, hI, hp, hm, ha⟩ := hR
  have hM5 := hA.1
  by_cases h1 : wi p1 1 6 = 0
  · exact ⟨-9223372036854775808, σ, μ, by simp only [bd_some, bv_some, lt_eq, ↓reduceIte, f_X11_best, c_within, h1], by simp only [bd_some, bv_some, lt_eq, ↓reduceIte, f_X12_best, m_within, h1], hi⟩
  by_cases h2 : wi p2 0 5 = 0
  · exact ⟨-9223372036854775808, σ, μ, by simp only [bd_some, bv_some, lt_eq, ↓reduceIte, f_X11_best, c_within, h1, c_isWind, h2], by simp only [bd_some, bv_some, lt_eq, ↓reduceIte, f_X12_best, m_within, h1, m_isWind, h2], hi⟩
  by_cases h3 : wi p3 0 2 = 0
  · exact ⟨-9223372036854775808, σ, μ, by simp only [bd_some, bv_some, lt_eq, ↓reduceIte, f_X11_best, c_within, h1, c_isWind, h2, h3], by simp only [bd_some, bv_some, lt_eq, ↓reduceIte, f_X12_best, m_within, h1, m_isWind, h2, h3], hi⟩
  rcases led_is hA with ⟨-, l2, l3⟩ | ⟨k, hk, l5, l7, l2, l3⟩
  · exact ⟨-9223372036854775808, σ, μ, by simp only [bd_some, bv_some, lt_eq, ↓reduceIte, f_X11_best, c_within, h1, c_isWind, h2, h3, l2], by simp only [bd_some, bv_some, lt_eq, ↓reduceIte, f_X12_best, m_within, h1, m_isWind, h2, h3, l3], hi⟩
  rcases away_is hA with ⟨a1, a2⟩ | ⟨a1, a2⟩
  · obtain ⟨N, hN1, hN, rfl⟩ := wi_nat (lo := 1) (hi := 6) h1 (by omega) (by omega)
    obtain ⟨w, -, hw, rfl⟩ := wi_nat (lo := 0) (hi := 5) h2 (by omega) (by omega)
    obtain ⟨q, -, hq, rfl⟩ := wi_nat (lo := 0) (hi := 2) h3 (by omega) (by omega)
    obtain ⟨e1, -, -, ⟨h, hh, e7⟩, ⟨d, hd, e8⟩, -⟩ := hA.2.2.2.2.2.1
    have c72 : gI σ 7 2 = nI h := (e1 2 (by omega)).trans e7
    have c73 : gI σ 7 3 = nI d := (e1 3 (by omega)).trans e8
    have e7 : gI μ 1 7 = nI h := e7
    have e8 : gI μ 1 8 = nI d := e8
    obtain ⟨J, K, j1, j2, j3, j4, j5, j6, j7, j8, j9⟩ := id hp
    obtain ⟨σ1, s1, s2, s3, s4⟩ := c_begin_ hA hH hk (by omega) j5 j7 (j9 k hk l5)
    obtain ⟨μ1, J2, K2, u1, u2, u3, u4, u5, u6, u7, u8⟩ := m_begins hA hk l5 hm (by omega)
    have ibk : ib (nI k) 5 = true := ib_nI (by omega) (by omega)
    have tk : (nI k).toNatClampNeg = k := nI_tn (by omega)
    have z7 : gI μ1 1 7 = nI h := by rw [u4 1 (by omega)]; exact e7
    have z8 : gI μ1 1 8 = nI d := by rw [u4 1 (by omega)]; exact e8
    have s5 : gI σ1 41 5 = nI K := s3.trans j6
    have s45 : ∀ x, x < 21600 → le_ (gI σ1 45 x) K := fun x hx => by rw [s2 45 (by omega)]; exact j8 x hx
    have b := (hA.2.2.2.2.2.2.2.2.2 k hk).1
    have hch := (win_ hA.2.2.2.2.1).2
    have hbB := bBe_le b hch N w h d (by omega)
    have fin : ∀ (σ' μ' : Mem) (a c : Nat), a ≤ 8 → c ≤ 8 → cFx M σ1 σ' → cI0 M Am k J (chN (gI μ 1)) σ' → gI σ' 41 5 = nI (K + a) → (∀ i, i < 21600 → le_ (gI σ' 45 i) (K + a)) → mFx μ1 μ' → mI0 k (Am k) J2 (chN (gI μ 1)) μ' → gI μ' 0 26 = nI (K2 + c) → (∀ i, i < 21600 → le_ (gI μ' 11 i) (K2 + c)) → Rel n σ' μ' := by
      intro σ' μ' a c ha8 hc8 x1 x2 x3 x4 y1 y2 y3 y4
      refine rel_plan (k := k) (J := J) (K := K + a) (J2 := J2) (K2 := K2 + c) (by omega) hA hI ha l5 x2 j1 (by omega) (by omega) (by omega) x3 x4 ?_ ?_ ?_ ?_ ?_ y2 (by omega) (by omega) y3 y4
      · exact fun c h1 h2 => (x1.1 c h1 h2).trans (s2 c (by omega))
      · exact fun j hj => ⟨(x1.2 j hj).1.trans (s2 _ (by unfold mo; omega)), fun x a b => ((x1.2 j hj).2 x a b).trans (s2 _ (by unfold mo; omega))⟩
      · exact fun c hc => (y1.1 c (by omega)).trans (u4 c (by omega))
      · exact (y1.2 3 (by omega) (by omega) (by omega)).trans (u5 3 (by omega) (by omega))
      · exact (y1.2 35 (by omega) (by omega) (by omega)).trans (u5 35 (by omega) (by omega))
    rcases (show q = 0 ∨ q = 1 ∨ q = 2 by omega) with rfl | rfl | rfl
    · obtain ⟨σ2, t1, t2, t3⟩ := c_bestSetting s4 (n := N) (w := w) (h := h) (d := d) (by omega) hN (by omega) (by omega) (by omega)
      obtain ⟨μ2, v1, v2, v3⟩ := m_bestSetting u6 (n := N) (w := w) (h := h) (d := d) (sel := none) (by omega) hN (by omega) (by omega) (by omega) (fun p hp => by cases hp)
      have v1 : f_X12_bestSetting (nI N) (nI w) (nI h) (nI d) (-1 : Int32) μ1 = some (nI (bSt (Am k) (chN (gI μ 1)) (N - 1) w h d), μ2) := by
        refine Eq.trans v1 ?_
        have e : gF (okS (Am k) h d none) (fun st => bWo (Am k) (chN (gI μ 1)) (bBe (Am k) (chN (gI μ 1)) (N - 1)) w st h d) 8 = some (am8 (fun st => bWo (Am k) (chN (gI μ 1)) (bBe (Am k) (chN (gI μ 1)) (N - 1)) w st h d) 8) := (gF_all (fun st => bWo (Am k) (chN (gI μ 1)) (bBe (Am k) (chN (gI μ 1)) (N - 1)) w st h d) 7).1
        rw [e]
        rfl
      refine ⟨(nI (bSt (Am k) (chN (gI μ 1)) (N - 1) w h d)).toInt64, σ2, μ2, ?_, ?_, fin σ2 μ2 0 0 (by omega) (by omega) (cFx_r t2) t3 ?_ ?_ (mFx_r v2) v3 ?_ ?_⟩
      · simp only [bd_some, bv_some, lt_eq, ↓reduceIte, f_X11_best, c_within, h1, c_isWind, h2, h3, l2, e10_, a1, l7, ibk, gd_true, tk, s1, c72, c73]
        rw [if_pos (by rfl), t1, bd_some]
      · simp only [bd_some, bv_some, lt_eq, ↓reduceIte, f_X12_best, m_within, h1, m_isWind, h2, h3, l3, e10_, a2, e01_, u1, z7, z8]
        rw [if_pos (by rfl), v1, bd_some]
      · rw [t2.1 41 (by omega) (by omega) (by omega)]; exact s5
      · intro x hx
        rw [t2.1 45 (by omega) (by omega) (by omega)]; exact s45 x hx
      · rw [v2.2.1 26 (by omega)]; exact u7
      · intro x hx
        rw [v2.1 11 (by omega)]; exact u8 x hx
    · obtain ⟨σ2, t1, t2, t3⟩ := c_bestWorth s4 (n := N) (w := w) (h := h) (d := d) hN (by omega) (by omega) (by omega)
      obtain ⟨μ2, v1, v2, v3⟩ := m_bestFrom u6 (n := N) (w := w) (h := h) (d := d) hN (by omega) (by omega) (by omega)
      refine ⟨lN (bBe (Am k) (chN (gI μ 1)) N w h d), σ2, μ2, ?_, ?_, fin σ2 μ2 0 0 (by omega) (by omega) (cFx_r t2) t3 ?_ ?_ (mFx_r v2) v3 ?_ ?_⟩
      · simp only [bd_some, bv_some, lt_eq, ↓reduceIte, f_X11_best, c_within, h1, c_isWind, h2, h3, l2, e10_, a1, l7, ibk, gd_true, tk, s1, c72, c73]
        rw [if_neg (by decide), if_pos (by rfl), t1, bd_some, nI_l]
        generalize bBe (Am k) (chN (gI μ 1)) N w h d = z at *
        omega
      · simp only [bd_some, bv_some, lt_eq, ↓reduceIte, f_X12_best, m_within, h1, m_isWind, h2, h3, l3, e10_, a2, e01_, u1, z7, z8]
        rw [if_neg (by decide), v1, bd_some]
        have e : ∀ fu : Nat, fx7 f_X12_best_109 (fu + 1) (nI N) (nI w) (nI 1) (lN (bBe (Am k) (chN (gI μ 1)) N w h d)) (0 : Int64) (0 : Int32) μ2 = some (lN (bBe (Am k) (chN (gI μ 1)) N w h d), μ2) := fun fu => by
          show f_X12_best_109 (fx7 f_X12_best_109 fu) _ _ _ _ _ _ _ = _
          generalize fx7 f_X12_best_109 fu = kk
          unfold f_X12_best_109
          rw [if_neg (by decide), if_neg (by decide), show (0 : Int64) = lN 0 from rfl, lN_sub (Nat.zero_le _)]
          rfl
        exact e 5999
      · rw [t2.1 41 (by omega) (by omega) (by omega)]; exact s5
      · intro x hx
        rw [t2.1 45 (by omega) (by omega) (by omega)]; exact s45 x hx
      · rw [v2.2.1 26 (by omega)]; exact u7
      · intro x hx
        rw [v2.1 11 (by omega)]; exact u8 x hx
    · obtain ⟨σ2, t1, t2, t3, t4, t5⟩ := c_looking s4 (n := N) (w := w) (h := h) (d := d) (K := K) (by omega) hN (by omega) (by omega) (by omega) (by omega) s5 s45
      obtain ⟨ν, v1, v2, v3⟩ := m_bestFrom u6 (n := N) (w := w) (h := h) (d := d) hN (by omega) (by omega) (by omega)
      obtain ⟨μ2, y1, y2, y3, y4, y5⟩ := m_look v3 (n := N) (w := w) (h := h) (d := d) (K := K2) (x := bBe (Am k) (chN (gI μ 1)) N w h d) (by omega) hN (by omega) (by omega) (by omega) (by omega) ((v2.2.1 26 (by omega)).trans u7) (fun x hx => by rw [v2.1 11 (by omega)]; exact u8 x hx) (by rw [v2.1 1 (by omega)]; exact z7) (by rw [v2.1 1 (by omega)]; exact z8)
      refine ⟨lN (bBe (Am k) (chN (gI μ 1)) N w h d) - lN (mx8 (fun st => fK (Am k) (chN (gI μ 1)) 1 st (-1) N w h d) 8), σ2, μ2, ?_, ?_, fin σ2 μ2 8 8 (by omega) (by omega) t2 t3 t4 t5 (mFx_trans (mFx_r v2) y2) y3 y4 y5⟩
      · have hx := mx8_le (f := fun st => fK (Am k) (chN (gI μ 1)) 1 st (-1) N w h d) (B := 9999999) (n := 8) (fun j _ => by have := fK_le b hch 1 j (-1) hN (show w < 6 by omega) h d; omega)
        simp only [bd_some, bv_some, lt_eq, ↓reduceIte, f_X11_best, c_within, h1, c_isWind, h2, h3, l2, e10_, a1, l7, ibk, gd_true, tk, s1, c72, c73]
        rw [if_neg (by decide), if_neg (by decide), t1, bd_some, sub_l]
        · generalize bBe (Am k) (chN (gI μ 1)) N w h d = z at *
          omega
        · generalize mx8 (fun st => fK (Am k) (chN (gI μ 1)) 1 st (-1) N w h d) 8 = z at *
          omega
      · simp only [bd_some, bv_some, lt_eq, ↓reduceIte, f_X12_best, m_within, h1, m_isWind, h2, h3, l3, e10_, a2, e01_, u1, z7, z8]
        rw [if_neg (by decide), v1, bd_some]
        exact y1
  · exact ⟨0, σ, μ, by simp only [bd_some, bv_some, lt_eq, ↓reduceIte, f_X11_best, c_within, h1, c_isWind, h2, h3, l2, e10_, a1], by simp only [bd_some, bv_some, lt_eq, ↓reduceIte, f_X12_best, m_within, h1, m_isWind, h2, h3, l3, e10_, a2], hi⟩
theorem op_dress (n : Nat) (σ μ : Mem) (p1 p2 : Int32) (hR : Rel (n + 1) σ μ) : ∃ (r : Int32) (σ1 μ1 : Mem), f_X11_dress p1 p2 σ = some (r, σ1) ∧ f_X12_dress p1 p2 μ = some (r, μ1) ∧ Rel n σ1 μ1 := by
  have hi := rel_idle n σ μ hR
  obtain ⟨hn, Am, M, hA, hH, hI, hp, hm, ha⟩ := hR
  have hM5 := hA.1
  by_cases h2 : wi p2 0 5 = 0
  · exact ⟨-1, σ, μ, by simp only [bd_some, bv_some, lt_eq, ↓reduceIte, f_X11_dress, c_isWind, h2], by simp only [bd_some, bv_some, lt_eq, ↓reduceIte, f_X12_dress, m_isWind, h2], hi⟩
  by_cases h1 : wi p1 1 4 = 0
  · exact ⟨-2, σ, μ, by simp only [bd_some, bv_some, lt_eq, ↓reduceIte, f_X11_dress, c_isWind, h2, c_within, h1], by simp only [bd_some, bv_some, lt_eq, ↓reduceIte, f_X12_dress, m_isWind, h2, m_within, h1], hi⟩
  rcases led_is hA with ⟨-, l2, l3⟩ | ⟨k, hk, l5, l7, l2, l3⟩
  · exact ⟨-3, σ, μ, by simp only [bd_some, bv_some, lt_eq, ↓reduceIte, f_X11_dress, c_isWind, h2, c_within, h1, l2], by simp only [bd_some, bv_some, lt_eq, ↓reduceIte, f_X12_dress, m_isWind, h2, m_within, h1, l3], hi⟩
  rcases away_is hA with ⟨a1, a2⟩ | ⟨a1, a2⟩
  · obtain ⟨N, hN1, hN, rfl⟩ := wi_nat (lo := 1) (hi := 4) h1 (by omega) (by omega)
    obtain ⟨w, -, hw, rfl⟩ := wi_nat (lo := 0) (hi := 5) h2 (by omega) (by omega)
    obtain ⟨e1, -, -, ⟨h, hh, e7⟩, ⟨d, hd, e8⟩, -⟩ := hA.2.2.2.2.2.1
    have c72 : gI σ 7 2 = nI h := (e1 2 (by omega)).trans e7
    have c73 : gI σ 7 3 = nI d := (e1 3 (by omega)).trans e8
    have e7 : gI μ 1 7 = nI h := e7
    have e8 : gI μ 1 8 = nI d := e8
    obtain ⟨J, K, j1, j2, j3, j4, j5, j6, j7, j8, j9⟩ := id hp
    obtain ⟨σ1, s1, s2, s3, s4⟩ := c_begin_ hA hH hk (by omega) j5 j7 (j9 k hk l5)
    obtain ⟨μ1, J2, K2, u1, u2, u3, u4, u5, u6, u7, u8⟩ := m_begins hA hk l5 hm (by omega)
    have ibk : ib (nI k) 5 = true := ib_nI (by omega) (by omega)
    have tk : (nI k).toNatClampNeg = k := nI_tn (by omega)
    have g72 : gI σ1 7 2 = nI h := by rw [s2 7 (by omega)]; exact c72
    have g73 : gI σ1 7 3 = nI d := by rw [s2 7 (by omega)]; exact c73
    obtain ⟨σ2, t1, t2, t3, t4, t5⟩ := c_dressing s4 (n := N) (w := w) (h := h) (d := d) (K := K) (by omega) hN (by omega) (by omega) (by omega) (by omega) (s3.trans j6) (fun x hx => by rw [s2 45 (by omega)]; exact j8 x hx)
    obtain ⟨μ2, v1, v2, v3, v4, v5⟩ := m_dress u6 (n := N) (w := w) (h := h) (d := d) (K := K2) (by omega) hN (by omega) (by omega) (by omega) (by omega) u7 u8 (by rw [u4 1 (by omega)]; exact e7) (by rw [u4 1 (by omega)]; exact e8)
    refine ⟨dW (fK (Am k) (chN (gI μ 1)) 3 0 (-1) N w h d) (fun at_ => fK (Am k) (chN (gI μ 1)) 3 0 (nI at_) N w h d) N, σ2, μ2, ?_, ?_, ?_⟩
    · simp only [bd_some, bv_some, lt_eq, ↓reduceIte, f_X11_dress, c_isWind, h2, c_within, h1, l2, e10_, a1, l7, ibk, gd_true, tk, s1, g72, g73, t1]
    · simp only [bd_some, bv_some, lt_eq, ↓reduceIte, f_X12_dress, m_isWind, h2, m_within, h1, l3, e10_, a2, e01_, u1]
      exact v1
    · refine rel_plan (k := k) (J := J) (K := K + 1 + N) (J2 := J2) (K2 := K2 + 1 + N) (by omega) hA hI ha l5 t3 j1 (by omega) (by omega) (by omega) t4 t5 ?_ ?_ ?_ ?_ ?_ v3 (by omega) (by omega) v4 v5
      · exact fun c h1 h2 => (t2.1 c h1 h2).trans (s2 c (by omega))
      · exact fun j hj => ⟨(t2.2 j hj).1.trans (s2 _ (by unfold mo; omega)), fun x a b => ((t2.2 j hj).2 x a b).trans (s2 _ (by unfold mo; omega))⟩
      · exact fun c hc => (v2.1 c (by omega)).trans (u4 c (by omega))
      · exact (v2.2 3 (by omega) (by omega) (by omega)).trans (u5 3 (by omega) (by omega))
      · exact (v2.2 35 (by omega) (by omega) (by omega)).trans (u5 35 (by omega) (by omega))
  · exact ⟨-5, σ, μ, by simp only [bd_some, bv_some, lt_eq, ↓reduceIte, f_X11_dress, c_isWind, h2, c_within, h1, l2, e10_, a1], by simp only [bd_some, bv_some, lt_eq, ↓reduceIte, f_X12_dress, m_isWind, h2, m_within, h1, l3, e10_, a2], hi⟩
