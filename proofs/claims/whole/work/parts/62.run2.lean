/-! the call run -/
theorem m_272 {μ : Mem} {n fl h d now : Nat} {g : Bool} (h6 : gI μ 1 6 = nI now) : ∃ V, f_X12_run_272 (nI n) (lN fl) (nI h) (nI d) (bI (!g)) μ = some (lN fl, V) ∧ (∀ c, c ≠ 1 → gI V c = gI μ c) ∧ (∀ j, (j < 6 ∨ 10 < j) → gI V 1 j = gI μ 1 j) ∧ gI V 1 6 = nI (now + n) ∧ gI V 1 7 = nI h ∧ gI V 1 8 = nI d ∧ gI V 1 9 = gI μ 1 9 + nI fl ∧ gI V 1 10 = bI g := by
  obtain ⟨V, hV⟩ : ∃ V, V = sI (sI (sI (sI (sI μ 1 6 (nI (now + n))) 1 7 (nI h)) 1 8 (nI d)) 1 9 (gI μ 1 9 + nI fl)) 1 10 (bI g) := ⟨_, rfl⟩
  refine ⟨V, ?_, fun c hc => by rw [hV]; simp (disch := omega) only [gIr, gIrL], fun j hj => by rw [hV]; simp (disch := omega) only [gI_ss, gI_sk, gI_sc], by rw [hV]; simp (disch := omega) only [gI_ss, gI_sk, gI_sc], by rw [hV]; simp (disch := omega) only [gI_ss, gI_sk, gI_sc], by rw [hV]; simp (disch := omega) only [gI_ss, gI_sk, gI_sc], by rw [hV]; simp (disch := omega) only [gI_ss, gI_sk, gI_sc], by rw [hV]; simp (disch := omega) only [gI_ss, gI_sk, gI_sc]⟩
  have e9 : gI (sI (sI (sI μ 1 6 (nI (now + n))) 1 7 (nI h)) 1 8 (nI d)) 1 9 = gI μ 1 9 := by simp (disch := omega) only [gI_ss, gI_sk, gI_sc]
  unfold f_X12_run_272
  rw [h6, nI_add, lt_eq, lt_eq, lt_eq, e9, lN_i, lt_eq, hV]
  cases g with
  | true => rfl
  | false => rfl
theorem op_run (n : Nat) (σ μ : Mem) (p1 p2 p3 p4 : Int32) (hR : Rel (n + 1) σ μ) : ∃ (r : Int64) (σ1 μ1 : Mem), f_X11_run p1 p2 p3 p4 σ = some (r, σ1) ∧ f_X12_run p1 p2 p3 p4 μ = some (r, μ1) ∧ Rel n σ1 μ1 := by
  have hi := rel_idle n σ μ hR
  obtain ⟨hn, Am, M, hA, hH, hI, hp, hm, ha⟩ := hR
  have hM5 := hA.1
  obtain ⟨d1, D, d2, d3, d4⟩ := hA.2.2.2.2.2.2.1
  have d1 : gI σ 8 4 = nI D := d1.trans d3
  have d3 : gI μ 1 1 = nI D := d3
  by_cases h1 : wi p1 0 (nI D - 1) = 0
  · exact ⟨-9223372036854775808, σ, μ, by simp only [bd_some, bv_some, lt_eq, ↓reduceIte, f_X11_run, c_isRule, d1, h1], by simp only [bd_some, bv_some, lt_eq, ↓reduceIte, f_X12_run, m_isRule, d3, h1], hi⟩
  by_cases h2 : wi p2 1 30 = 0
  · exact ⟨-9223372036854775808, σ, μ, by simp only [bd_some, bv_some, lt_eq, ↓reduceIte, f_X11_run, c_isRule, d1, h1, c_within, h2], by simp only [bd_some, bv_some, lt_eq, ↓reduceIte, f_X12_run, m_isRule, d3, h1, m_within, h2], hi⟩
  by_cases h3 : wi p3 0 999 = 0
  · exact ⟨-9223372036854775808, σ, μ, by simp only [bd_some, bv_some, lt_eq, ↓reduceIte, f_X11_run, c_isRule, d1, h1, c_within, h2, h3], by simp only [bd_some, bv_some, lt_eq, ↓reduceIte, f_X12_run, m_isRule, d3, h1, m_within, h2, h3], hi⟩
  by_cases h4 : wi p4 0 5 = 0
  · exact ⟨-9223372036854775808, σ, μ, by simp only [bd_some, bv_some, lt_eq, ↓reduceIte, f_X11_run, c_isRule, d1, h1, c_within, h2, h3, c_isWind, h4], by simp only [bd_some, bv_some, lt_eq, ↓reduceIte, f_X12_run, m_isRule, d3, h1, m_within, h2, h3, m_isWind, h4], hi⟩
  rcases led_is hA with ⟨-, l2, l3⟩ | ⟨k, hk, l5, l7, l2, l3⟩
  · exact ⟨-9223372036854775808, σ, μ, by simp only [bd_some, bv_some, lt_eq, ↓reduceIte, f_X11_run, c_isRule, d1, h1, c_within, h2, h3, c_isWind, h4, l2], by simp only [bd_some, bv_some, lt_eq, ↓reduceIte, f_X12_run, m_isRule, d3, h1, m_within, h2, h3, m_isWind, h4, l3], hi⟩
  obtain ⟨i, hi1, rfl⟩ := wi_cnt h1 (by omega)
  obtain ⟨N, hN1, hN, rfl⟩ := wi_nat (lo := 1) (hi := 30) h2 (by omega) (by omega)
  obtain ⟨sd, -, hsd, rfl⟩ := wi_nat (lo := 0) (hi := 999) h3 (by omega) (by omega)
  obtain ⟨w, -, hw, rfl⟩ := wi_nat (lo := 0) (hi := 5) h4 (by omega) (by omega)
  obtain ⟨e1, e2, ⟨now, hnow, e6⟩, ⟨h, hh, e7⟩, ⟨d, hd, e8⟩, -⟩ := id hA.2.2.2.2.2.1
  have e1 : ∀ i, i < 6 → gI σ 7 i = gI μ 1 (5 + i) := e1
  have c70 : gI σ 7 0 = nI k := l7
  have c71 : gI σ 7 1 = nI now := (e1 1 (by omega)).trans e6
  have c72 : gI σ 7 2 = nI h := (e1 2 (by omega)).trans e7
  have c73 : gI σ 7 3 = nI d := (e1 3 (by omega)).trans e8
  have c74 : gI σ 7 4 = gI μ 1 9 := e1 4 (by omega)
  have e6 : gI μ 1 6 = nI now := e6
  have e7 : gI μ 1 7 = nI h := e7
  have e8 : gI μ 1 8 = nI d := e8
  by_cases h5 : ¬ now + N ≤ 999
  · refine ⟨-9223372036854775808, σ, μ, ?_, ?_, hi⟩
    · simp only [bd_some, bv_some, lt_eq, ↓reduceIte, f_X11_run, c_isRule, d1, h1, c_within, h2, h3, c_isWind, h4, l2, e10_, c71]
      rw [nI_add, if_neg (show ¬ nI (now + N) ≤ (999 : Int32) from nI_ge (a := 999) (by omega) (by omega))]
    · simp only [bd_some, bv_some, lt_eq, ↓reduceIte, f_X12_run, m_isRule, d3, h1, m_within, h2, h3, m_isWind, h4, l3, e10_, e6]
      rw [nI_add, if_neg (show ¬ nI (now + N) ≤ (999 : Int32) from nI_ge (a := 999) (by omega) (by omega))]
  have h5 : now + N ≤ 999 := by omega
  have hle : nI now + nI N ≤ (999 : Int32) := by
    rw [nI_add]
    exact nI_le (b := 999) h5 (by omega)
  obtain ⟨J, K, j1, j2, j3, j4, j5, j6, j7, j8, j9⟩ := id hp
  obtain ⟨kd, v, row, r1, r2, r3, r4, r5, r6, r7, r8, r9⟩ := rule_ctx (σ := σ) (rl := gI σ 8) d4 hi1 d2
  obtain ⟨σ1, s1, s2, s3, s4, s5⟩ := c_followR hA hH hk (by omega) j5 j7 (j9 k hk l5) (by omega) r1 r2 r5 r6 r7 r8
  obtain ⟨μ1, J2, K2, u1, u2, u3, u4, u5, u6, u7, u8⟩ := m_begins hA hk l5 hm (by omega)
  have ibk : ib (nI k) 5 = true := ib_nI (by omega) (by omega)
  have tk : (nI k).toNatClampNeg = k := nI_tn (by omega)
  have t7 : gI σ1 7 = gI σ 7 := s2 7 (by omega)
  have z6 : gI μ1 1 6 = nI now := by rw [u4 1 (by omega)]; exact e6
  have z7 : gI μ1 1 7 = nI h := by rw [u4 1 (by omega)]; exact e7
  have z8 : gI μ1 1 8 = nI d := by rw [u4 1 (by omega)]; exact e8
  have ez : gI σ1 7 4 = gI σ 7 4 + nI 0 := by
    rw [t7]
    exact (Int32.add_zero _).symm
  have hF : N < FU := Nat.lt_of_le_of_lt hN (by decide)
  -- both roads end so
  have fin : ∀ (h' d' fl : Nat) (aw : Bool) (σ' μ' : Mem), h' < 10 → d' < 10 → cF7 M σ1 σ' → cI0 M Am k J (chN (gI μ 1)) σ' → gI σ' 7 0 = gI σ1 7 0 → gI σ' 7 1 = nI (now + N) → gI σ' 7 2 = nI h' → gI σ' 7 3 = nI d' → gI σ' 7 4 = gI σ 7 4 + nI fl → gI σ' 7 5 = bI aw → mI0 k (Am k) J2 (chN (gI μ 1)) μ' → mFr J2 μ1 μ' →
      ∃ V, f_X12_run_272 (nI N) (lN fl) (nI h') (nI d') (bI (!aw)) μ' = some (lN fl, V) ∧ Rel n σ' V := by
    intro h' d' fl aw σ' μ' hh' hd' x1 x2 y0 y1 y2 y3 y4 y5 x3 x4
    have q6 : gI μ' 1 6 = nI now := by rw [x4.1 1 (by omega)]; exact z6
    have q1 : ∀ j, gI μ' 1 j = gI μ 1 j := fun j => by rw [x4.1 1 (by omega), u4 1 (by omega)]
    obtain ⟨V, v1, v2, v3, v6, v7, v8, v9, v10⟩ := m_272 (n := N) (fl := fl) (h := h') (d := d') (g := aw) q6
    refine ⟨V, v1, ?_⟩
    have m1 : ∀ j, (j < 6 ∨ 10 < j) → gI V 1 j = gI μ 1 j := fun j hj => (v3 j hj).trans (q1 j)
    have f : ∀ c, c < 48 → c ≠ 7 → c ≠ 41 → c ≠ 42 → c ≠ 43 → gI σ' c = gI σ c := fun c a1 a2 a3 a4 a5 => (x1.1 c a1 a2 a4 a5).trans (s2 c a3)
    have hch : chN (gI V 1) = chN (gI μ 1) := chN_m (fun j hj => m1 j (by omega))
    obtain ⟨i0, i5, i6, i7, i8, i9, i10, i11, i12⟩ := x2
    refine rel_go (by omega) hA hI ha (fun c a1 a2 => f c (by omega) a2 (by omega) (by omega) (by omega)) (f 46 (by omega) (by omega) (by omega) (by omega) (by omega)) (f 47 (by omega) (by omega) (by omega) (by omega) (by omega)) (fun j hj => ⟨(x1.2 j hj).1.trans (s2 _ (by unfold mo; omega)), fun x a b => ((x1.2 j hj).2 x a b).trans (s2 _ (by unfold mo; omega))⟩) i6 ⟨J, K, j1, by omega, j3, by omega, i9, ?_, i12, fun x hx => ?_, fun k' hk' e => ?_⟩ (fun j hj => m1 j (by omega)) ?_ ?_ ?_ ?_ ⟨J2, K2, by omega, by omega, ?_, ?_, fun x hx => ?_, fun x hx => ?_, fun x hx => ?_⟩ ⟨fun x hx => ?_, Or.inr ⟨k, hk, (m1 5 (by omega)).trans l5⟩, ⟨now + N, by omega, v6⟩, ⟨h', by omega, v7⟩, ⟨d', by omega, v8⟩, ?_⟩
    · rw [x1.1 41 (by omega) (by omega) (by omega) (by omega), s3]; exact j6
    · rw [f 45 (by omega) (by omega) (by omega) (by omega) (by omega)]; exact j8 x hx
    · rw [m1 5 (by omega)] at e
      have : k' = k := nI_inj (by omega) (by omega) (e.symm.trans l5)
      subst this
      rw [hch]
      exact i10
    · exact (v2 2 (by omega)).trans ((x4.1 2 (by omega)).trans (u4 2 (by omega)))
    · exact (v2 15 (by omega)).trans ((x4.1 15 (by omega)).trans (u4 15 (by omega)))
    · rw [v2 0 (by omega)]; exact (x4.2.1 3 (by omega)).trans (u5 3 (by omega) (by omega))
    · rw [v2 0 (by omega)]; exact (x4.2.1 35 (by omega)).trans (u5 35 (by omega) (by omega))
    · rw [v2 0 (by omega)]; exact x3.2.2.2.1
    · rw [v2 0 (by omega)]; exact (x4.2.1 26 (by omega)).trans u7
    · rw [v2 5 (by omega)]; exact x3.2.2.2.2.2.2.2.1 x hx
    · rw [v2 10 (by omega)]; exact x3.2.2.2.2.2.2.2.2 x hx
    · rw [v2 11 (by omega), x4.1 11 (by omega)]; exact u8 x hx
    · rcases (show x = 0 ∨ x = 1 ∨ x = 2 ∨ x = 3 ∨ x = 4 ∨ x = 5 by omega) with rfl | rfl | rfl | rfl | rfl | rfl
      · rw [y0, t7, c70]; exact ((m1 5 (by omega)).trans l5).symm
      · exact y1.trans v6.symm
      · exact y2.trans v7.symm
      · exact y3.trans v8.symm
      · rw [y4, c74]; exact (v9.trans (by rw [q1 9])).symm
      · exact y5.trans v10.symm
    · rw [v10]
      cases aw
      · exact ⟨0, by omega, rfl⟩
      · exact ⟨1, by omega, rfl⟩
  have eC : ∀ X, fx8 f_X11_run_141 FU (nI N) (nI sd) (mo k) (gI σ 7 4) (nI w) (nI w) (nI 0) σ1 = X → f_X11_run (nI i) (nI N) (nI sd) (nI w) σ = X := by
    intro X hX
    rw [← hX]
    simp only [bd_some, bv_some, lt_eq, ↓reduceIte, f_X11_run, c_isRule, d1, h1, c_within, h2, h3, c_isWind, h4, l2, e10_, c71, hle, l7, ibk, gd_true, tk]
    rw [s1, t7]
    rfl
  rcases away_is hA with ⟨a1, a2⟩ | ⟨a1, a2⟩
  · obtain ⟨h', d', fl, aw, σ', μ', x1, x2, x3, x4, x5, x6, x7, x8, x9, x10, x11, x12, x13, x14, x15⟩ := run_both (μ1 := μ1) (F0 := gI σ 7 4) (sd := sd) hN (by omega) (i := i) rfl (by omega) (by rw [u4 1 (by omega)]; exact r3) (by rw [u4 1 (by omega)]; exact r4) (by rw [u4 1 (by omega)]; exact r9) N 0 FU FU σ1 μ1 now h d 0 w w (by omega) hF hF s4 s5 (by rw [t7]; exact c71) (by omega) (by rw [t7]; exact c72) (by rw [t7]; exact c73) ez (by omega) (by rw [t7]; exact a1) (by omega) (by omega) (by omega) (by omega) u6 (mFr_refl _ _)
    obtain ⟨V, v1, v2⟩ := fin h' d' fl aw σ' μ' x4 x5 x6 x7 x8 x9 x10 x11 x12 x13 x14 x15
    refine ⟨lN fl, σ', V, eC _ x1, ?_, v2⟩
    have z10 : gI μ1 1 10 = 0 := by rw [u4 1 (by omega)]; exact a2
    simp only [bd_some, bv_some, lt_eq, ↓reduceIte, f_X12_run, m_isRule, d3, h1, m_within, h2, h3, m_isWind, h4, l3, e10_, e6, hle, u1, z6, z7, z8, z10]
    unfold f_X12_run_120
    exact x2.trans v1
  · obtain ⟨σ', x1, x2, x3, x4, x5, x6, x7, x8, x9⟩ := c_away (ν := μ1) u6 (n := N) (sd := sd) (h := h) (d := d) (fl := 0) (F0 := gI σ 7 4) hN (by omega) (by omega) (by omega) (by omega) N 0 FU σ1 now w w (by omega) hF s4 s5 (by rw [t7]; exact c71) (by omega) (by rw [t7]; exact c72) (by rw [t7]; exact c73) ez (by rw [t7]; exact a1) (by omega) (by omega)
    obtain ⟨V, v1, v2⟩ := fin h d 0 true σ' μ1 (by omega) (by omega) x2 x3 x4 x5 x6 x7 x8 x9 u6 (mFr_refl _ _)
    refine ⟨lN 0, σ', V, eC _ x1, ?_, v2⟩
    have z10 : gI μ1 1 10 = 1 := by rw [u4 1 (by omega)]; exact a2
    simp only [bd_some, bv_some, lt_eq, ↓reduceIte, f_X12_run, m_isRule, d3, h1, m_within, h2, h3, m_isWind, h4, l3, e10_, e6, hle, u1, z6, z7, z8, z10]
    rw [← v1]
    have e : ∀ fu : Nat, fx12 f_X12_run_125 (fu + 1) (nI i) (nI N) (nI sd) (lN 0) (nI h) (nI d) (nI now) (nI w) (nI w) (0 : Int32) (nI 0) μ1 = f_X12_run_272 (nI N) (lN 0) (nI h) (nI d) (bI (!true)) μ1 := fun fu => by
      show f_X12_run_125 (fx12 f_X12_run_125 fu) _ _ _ _ _ _ _ _ _ _ _ _ = _
      generalize fx12 f_X12_run_125 fu = kk
      unfold f_X12_run_125
      rw [if_neg (nI_ge (by omega) (by omega)), if_pos rfl]
      rfl
    unfold f_X12_run_120
    exact e 5999
