/-! THE IMAGE -/
theorem gI_cpo (σ : Mem) {a b n c' : Nat} (h : c' ≠ b) : gI (cpI σ a b n) c' = gI σ c' := by
  funext j
  rw [gI_cp, if_neg h]
theorem gI_cpi (σ : Mem) {a b n k : Nat} (h : k < n) : gI (cpI σ a b n) b k = gI σ a k := by
  rw [gI_cp, if_pos rfl, if_pos h]
theorem gI_cpk (σ : Mem) {a b n c' : Nat} (k : Nat) (h : c' ≠ b) : gI (cpI σ a b n) c' k = gI σ c' k := by rw [gI_cpo σ h]
theorem sAll_copy {a a' : Nat → Nat → Int32} {B B' M : Nat} {s s' : Nat → Int32} {Am : Nat → Mil} (h : sAll a B s M Am)
    (e0 : a' B' 0 = a B 0) (e1 : a' (B' + 1) 1 = a (B + 1) 1) (e2 : ∀ j, j < 120 → a' (B' + 2) j = a (B + 2) j) (e4 : ∀ j, j < 36 → a' (B' + 4) j = a (B + 4) j) (e5 : ∀ j, j < 6 → a' (B' + 5) j = a (B + 5) j) (e6 : a' (B' + 6) 4 = a (B + 6) 4)
    (e7 : ∀ j, j < 10 → a' (B' + 7) j = a (B + 7) j) (e8 : ∀ j, j < 10 → a' (B' + 8) j = a (B + 8) j) (e9 : ∀ j, j < 10 → a' (B' + 9) j = a (B + 9) j) (e10 : ∀ j, j < 100 → a' (B' + 10) j = a (B + 10) j) (e11 : a' (B' + 11) 2 = a (B + 11) 2)
    (e12 : ∀ j, j < 10 → a' (B' + 12) j = a (B + 12) j) (e13 : ∀ j, j < 10 → a' (B' + 13) j = a (B + 13) j) (e14 : a' (B' + 14) 4 = a (B + 14) 4) (e15 : ∀ j, j < 6 → a' (B' + 15) j = a (B + 15) j) (e16 : ∀ j, j < 6 → a' (B' + 16) j = a (B + 16) j) (e17 : ∀ j, j < 6 → a' (B' + 17) j = a (B + 17) j) (e18 : ∀ j, j < 6 → a' (B' + 18) j = a (B + 18) j)
    (em : ∀ c, 48 ≤ c → c < 83 → a' c = a c) (es : ∀ j, j < 1055 → s' j = s j) : sAll a' B' s' M Am := by
  obtain ⟨h1, h2, h3, h4, h5, h6, h7, h8, h9, h10⟩ := h
  have h4 := sTape_m h4 (s' := s') (fun j hj => es j (by omega))
  have h5 := sWinds_m h5 (s' := s') (fun j hj => es j (by omega))
  have h6 := sLed_m h6 (s' := s') (fun j hj => es j (by omega))
  have h7 := sRules_m h7 (s' := s') (fun j hj => es j (by omega))
  have h8 := sDay_m h8 (s' := s') (fun j hj => es j (by omega))
  have h9 := sOrders_m h9 (s' := s') (fun j hj => es j (by omega))
  have h10 := sMills_m h10 h1 (s' := s') (fun j hj => es j (by omega))
  refine ⟨h1, e0.trans h2, (es 0 (by omega)).trans h3, ?_, ?_, ?_, ?_, ?_, ?_, sMills_c h10 h1 em⟩
  · obtain ⟨q1, ⟨t, q2, q3, q4⟩, q5⟩ := h4
    exact ⟨e1.trans q1, ⟨t, q2, q3, fun j hj => by rw [e2 j (by omega)]; exact q4 j hj⟩, fun j hj => by rw [e2 j hj]; exact q5 j hj⟩
  · intro w hw
    obtain ⟨c, q1, q2⟩ := h5 w hw
    exact ⟨c, fun i hi => by rw [e4 (6 * w + i) (by omega)]; exact q1 i hi, q2⟩
  · obtain ⟨q1, q2⟩ := h6
    exact ⟨fun i hi => (e5 i hi).trans (q1 i hi), q2⟩
  · obtain ⟨q1, R, q2, q3, q4⟩ := h7
    refine ⟨e6.trans q1, R, q2, q3, fun i hi => ?_⟩
    obtain ⟨t1, t2, t3, t4, t5, z, t6, t7, t8⟩ := q4 i hi
    exact ⟨(e7 i (by omega)).trans t1, (e8 i (by omega)).trans t2, (e9 i (by omega)).trans t3, t4, t5, z, t6, t7, fun j hj => ⟨(e10 (10 * i + j) (by omega)).trans (t8 j hj).1, (t8 j hj).2⟩⟩
  · obtain ⟨q1, D, q2, q3, q4⟩ := h8
    refine ⟨e11.trans q1, D, q2, q3, fun i hi => ?_⟩
    obtain ⟨t1, t2, t3⟩ := q4 i hi
    exact ⟨(e12 i (by omega)).trans t1, (e13 i (by omega)).trans t2, t3⟩
  · obtain ⟨q1, O, q2, q3, h', d, q, q4, t, q5, q6⟩ := h9
    refine ⟨e14.trans q1, O, q2, q3, h', d, q, fun i hi => ?_, t, fun i hi => ?_, q6⟩
    · obtain ⟨t1, t2, t3, t4, t5, t6⟩ := q4 i hi
      exact ⟨(e15 i (by omega)).trans t1, t2, (e16 i (by omega)).trans t3, t4, (e17 i (by omega)).trans t5, t6⟩
    · obtain ⟨t1, t2⟩ := q5 i hi
      exact ⟨(e18 i (by omega)).trans t1, t2⟩
theorem c_copyb {σ : Mem} {M : Nat} {s s' : Nat → Int32} {Am : Nat → Mil} (h : sAll (gI σ) 2 s M Am) (es : ∀ j, j < 1055 → s' j = s j) : ∃ σ', f_X8_copyFromb σ = some σ' ∧ (∀ c, (c < 21 ∨ 40 ≤ c) → gI σ' c = gI σ c) ∧ sAll (gI σ') 21 s' M Am := by
  have h8 : by8 ((sI σ 21 0 (gI σ 2 0)).1 4) 120 = true := decide_eq_true h.2.2.2.1.2.2
  have hz : iz (gI σ 7 5) = true := by
    obtain ⟨q1, -, -, -, -, q, hq, q2⟩ := h.2.2.2.2.2.1
    have q1 : gI σ 7 5 = s (5 + 5) := q1 5 (by omega)
    have q2 : s (5 + 5) = nI q := q2
    rw [q1, q2]
    rcases (show q = 0 ∨ q = 1 by omega) with rfl | rfl <;> decide
  have hc : f_X8_copyFromb σ = some (sI (cpI (cpI (cpI (cpI (sI (cpI (cpI (sI (cpI (cpI (cpI (cpI (sI (sI (sI (sI (sI (sI (cpI (sI (cpI (sI σ 21 0 (gI σ 2 0)) 4 23 120) 22 1 (gI σ 3 1)) 6 25 36) 26 0 (gI σ 7 0)) 26 1 (gI σ 7 1)) 26 2 (gI σ 7 2)) 26 3 (gI σ 7 3)) 26 4 (gI σ 7 4)) 26 5 (gI σ 7 5)) 9 28 10) 10 29 10) 11 30 10) 12 31 100) 27 4 (gI σ 8 4)) 14 33 10) 15 34 10) 32 2 (gI σ 13 2)) 17 36 6) 18 37 6) 19 38 6) 20 39 6) 35 4 (gI σ 16 4)) := by
    unfold f_X8_copyFromb f_X9_copyFromb f_X10_copyFromb f_X2_copyFromb f_X7_copyFromb f_X1_copyFromb f_X4_copyFromb
    simp (disch := omega) only [lt_eq, bv_some, gd_true, h8, hz, gI_ss, gI_sk, gI_sc, gI_cpk]
  refine ⟨_, hc, fun c hc => by simp (disch := omega) only [gIr, gI_cpo], sAll_copy h ?_ ?_ ?_ ?_ ?_ ?_ ?_ ?_ ?_ ?_ ?_ ?_ ?_ ?_ ?_ ?_ ?_ ?_ (fun c h1 h2 => by simp (disch := omega) only [gIr, gI_cpo]) es⟩
  · simp (disch := omega) only [gI_ss, gI_sk, gI_sc, gI_cpk]
  · simp (disch := omega) only [gI_ss, gI_sk, gI_sc, gI_cpk]
  · intro j hj
    simp (disch := omega) only [gI_ss, gI_sk, gI_sc, gI_cpk, gI_cpi]
  · intro j hj
    simp (disch := omega) only [gI_ss, gI_sk, gI_sc, gI_cpk, gI_cpi]
  · intro j hj
    rcases (show j = 0 ∨ j = 1 ∨ j = 2 ∨ j = 3 ∨ j = 4 ∨ j = 5 by omega) with rfl | rfl | rfl | rfl | rfl | rfl <;> simp (disch := omega) only [gI_ss, gI_sk, gI_sc, gI_cpk]
  · simp (disch := omega) only [gI_ss, gI_sk, gI_sc, gI_cpk]
  · intro j hj
    simp (disch := omega) only [gI_ss, gI_sk, gI_sc, gI_cpk, gI_cpi]
  · intro j hj
    simp (disch := omega) only [gI_ss, gI_sk, gI_sc, gI_cpk, gI_cpi]
  · intro j hj
    simp (disch := omega) only [gI_ss, gI_sk, gI_sc, gI_cpk, gI_cpi]
  · intro j hj
    simp (disch := omega) only [gI_ss, gI_sk, gI_sc, gI_cpk, gI_cpi]
  · simp (disch := omega) only [gI_ss, gI_sk, gI_sc, gI_cpk]
  · intro j hj
    simp (disch := omega) only [gI_ss, gI_sk, gI_sc, gI_cpk, gI_cpi]
  · intro j hj
    simp (disch := omega) only [gI_ss, gI_sk, gI_sc, gI_cpk, gI_cpi]
  · simp (disch := omega) only [gI_ss, gI_sk, gI_sc, gI_cpk]
  · intro j hj
    simp (disch := omega) only [gI_ss, gI_sk, gI_sc, gI_cpk, gI_cpi]
  · intro j hj
    simp (disch := omega) only [gI_ss, gI_sk, gI_sc, gI_cpk, gI_cpi]
  · intro j hj
    simp (disch := omega) only [gI_ss, gI_sk, gI_sc, gI_cpk, gI_cpi]
  · intro j hj
    simp (disch := omega) only [gI_ss, gI_sk, gI_sc, gI_cpk, gI_cpi]
theorem c_copya {σ : Mem} {M : Nat} {s s' : Nat → Int32} {Am : Nat → Mil} (h : sAll (gI σ) 21 s M Am) (es : ∀ j, j < 1055 → s' j = s j) : ∃ σ', f_X8_copyFroma σ = some σ' ∧ (∀ c, (c < 2 ∨ 21 ≤ c) → gI σ' c = gI σ c) ∧ sAll (gI σ') 2 s' M Am := by
  have h8 : by8 ((sI σ 2 0 (gI σ 21 0)).1 23) 120 = true := decide_eq_true h.2.2.2.1.2.2
  have hz : iz (gI σ 26 5) = true := by
    obtain ⟨q1, -, -, -, -, q, hq, q2⟩ := h.2.2.2.2.2.1
    have q1 : gI σ 26 5 = s (5 + 5) := q1 5 (by omega)
    have q2 : s (5 + 5) = nI q := q2
    rw [q1, q2]
    rcases (show q = 0 ∨ q = 1 by omega) with rfl | rfl <;> decide
  have hc : f_X8_copyFroma σ = some (sI (cpI (cpI (cpI (cpI (sI (cpI (cpI (sI (cpI (cpI (cpI (cpI (sI (sI (sI (sI (sI (sI (cpI (sI (cpI (sI σ 2 0 (gI σ 21 0)) 23 4 120) 3 1 (gI σ 22 1)) 25 6 36) 7 0 (gI σ 26 0)) 7 1 (gI σ 26 1)) 7 2 (gI σ 26 2)) 7 3 (gI σ 26 3)) 7 4 (gI σ 26 4)) 7 5 (gI σ 26 5)) 28 9 10) 29 10 10) 30 11 10) 31 12 100) 8 4 (gI σ 27 4)) 33 14 10) 34 15 10) 13 2 (gI σ 32 2)) 36 17 6) 37 18 6) 38 19 6) 39 20 6) 16 4 (gI σ 35 4)) := by
    unfold f_X8_copyFroma f_X9_copyFroma f_X10_copyFroma f_X2_copyFroma f_X7_copyFroma f_X1_copyFroma f_X4_copyFroma
    simp (disch := omega) only [lt_eq, bv_some, gd_true, h8, hz, gI_ss, gI_sk, gI_sc, gI_cpk]
  refine ⟨_, hc, fun c hc => by simp (disch := omega) only [gIr, gI_cpo], sAll_copy h ?_ ?_ ?_ ?_ ?_ ?_ ?_ ?_ ?_ ?_ ?_ ?_ ?_ ?_ ?_ ?_ ?_ ?_ (fun c h1 h2 => by simp (disch := omega) only [gIr, gI_cpo]) es⟩
  · simp (disch := omega) only [gI_ss, gI_sk, gI_sc, gI_cpk]
  · simp (disch := omega) only [gI_ss, gI_sk, gI_sc, gI_cpk]
  · intro j hj
    simp (disch := omega) only [gI_ss, gI_sk, gI_sc, gI_cpk, gI_cpi]
  · intro j hj
    simp (disch := omega) only [gI_ss, gI_sk, gI_sc, gI_cpk, gI_cpi]
  · intro j hj
    rcases (show j = 0 ∨ j = 1 ∨ j = 2 ∨ j = 3 ∨ j = 4 ∨ j = 5 by omega) with rfl | rfl | rfl | rfl | rfl | rfl <;> simp (disch := omega) only [gI_ss, gI_sk, gI_sc, gI_cpk]
  · simp (disch := omega) only [gI_ss, gI_sk, gI_sc, gI_cpk]
  · intro j hj
    simp (disch := omega) only [gI_ss, gI_sk, gI_sc, gI_cpk, gI_cpi]
  · intro j hj
    simp (disch := omega) only [gI_ss, gI_sk, gI_sc, gI_cpk, gI_cpi]
  · intro j hj
    simp (disch := omega) only [gI_ss, gI_sk, gI_sc, gI_cpk, gI_cpi]
  · intro j hj
    simp (disch := omega) only [gI_ss, gI_sk, gI_sc, gI_cpk, gI_cpi]
  · simp (disch := omega) only [gI_ss, gI_sk, gI_sc, gI_cpk]
  · intro j hj
    simp (disch := omega) only [gI_ss, gI_sk, gI_sc, gI_cpk, gI_cpi]
  · intro j hj
    simp (disch := omega) only [gI_ss, gI_sk, gI_sc, gI_cpk, gI_cpi]
  · simp (disch := omega) only [gI_ss, gI_sk, gI_sc, gI_cpk]
  · intro j hj
    simp (disch := omega) only [gI_ss, gI_sk, gI_sc, gI_cpk, gI_cpi]
  · intro j hj
    simp (disch := omega) only [gI_ss, gI_sk, gI_sc, gI_cpk, gI_cpi]
  · intro j hj
    simp (disch := omega) only [gI_ss, gI_sk, gI_sc, gI_cpk, gI_cpi]
  · intro j hj
    simp (disch := omega) only [gI_ss, gI_sk, gI_sc, gI_cpk, gI_cpi]
theorem m_imageL (μ : Mem) : ∃ μ', fx2 f_X12_image_2 FU 0 μ = some (gI (sI μ' 0 3 1) 1 0, sI μ' 0 3 1) ∧ (∀ c, c ≠ 2 → gI μ' c = gI μ c) ∧ ∀ j, j < 1055 → gI μ' 2 j = gI μ 1 j := by
  have key : ∀ m i fu : Nat, ∀ τ : Mem, i + m = 1055 → m < fu → (∀ c, c ≠ 2 → gI τ c = gI μ c) → (∀ j, j < i → gI τ 2 j = gI μ 1 j) → ∃ μ', fx2 f_X12_image_2 fu (nI i) τ = some (gI (sI μ' 0 3 1) 1 0, sI μ' 0 3 1) ∧ (∀ c, c ≠ 2 → gI μ' c = gI μ c) ∧ ∀ j, j < 1055 → gI μ' 2 j = gI μ 1 j := by
    intro m
    induction m with
    | zero =>
      intro i fu τ hi hf h1 h2
      obtain ⟨fu, rfl⟩ : ∃ z, fu = z + 1 := ⟨fu - 1, by omega⟩
      have hi : i = 1055 := by omega
      subst hi
      refine ⟨τ, ?_, h1, h2⟩
      show f_X12_image_2 (fx2 f_X12_image_2 fu) _ _ = _
      generalize fx2 f_X12_image_2 fu = kk
      unfold f_X12_image_2
      exact if_pos (by decide)
    | succ m ih =>
      intro i fu τ hi hf h1 h2
      obtain ⟨fu, rfl⟩ : ∃ z, fu = z + 1 := ⟨fu - 1, by omega⟩
      obtain ⟨μ', i1, i2, i3⟩ := ih (i + 1) fu (sI τ 2 i (gI τ 1 i)) (by omega) (by omega) (fun c hc => by rw [gIr _ _ _ hc, h1 c hc]) (fun j hj => by
        by_cases e : j = i
        · subst e
          rw [gI_ss, h1 1 (by omega)]
        · rw [gI_sk _ _ _ e]
          exact h2 j (by omega))
      refine ⟨μ', ?_, i2, i3⟩
      rw [← i1]
      show f_X12_image_2 (fx2 f_X12_image_2 fu) _ _ = _
      generalize fx2 f_X12_image_2 fu = kk
      unfold f_X12_image_2
      simp (disch := omega) only [lt_eq, bd_some, bv_some, li, pk_mul, nI_add, nIsub, nIlt, nIle, nIeq, nIdiv, nIrem, neg_, pos_, ib_nI, gd_true, nI_tn, gI_ss, gI_sk, gI_sc, ↓reduceIte, nIn1b]
  have hf : 1055 < FU := by decide
  exact key 1055 0 FU μ (by omega) hf (fun _ _ => rfl) (fun j hj => by omega)
theorem m_undoL (μ : Mem) : ∃ μ', fx2 f_X12_undo_12 FU 0 μ = some (gI μ' 1 0, μ') ∧ (∀ c, c ≠ 1 → gI μ' c = gI μ c) ∧ ∀ j, j < 1055 → gI μ' 1 j = gI μ 2 j := by
  have key : ∀ m i fu : Nat, ∀ τ : Mem, i + m = 1055 → m < fu → (∀ c, c ≠ 1 → gI τ c = gI μ c) → (∀ j, j < i → gI τ 1 j = gI μ 2 j) → ∃ μ', fx2 f_X12_undo_12 fu (nI i) τ = some (gI μ' 1 0, μ') ∧ (∀ c, c ≠ 1 → gI μ' c = gI μ c) ∧ ∀ j, j < 1055 → gI μ' 1 j = gI μ 2 j := by
    intro m
    induction m with
    | zero =>
      intro i fu τ hi hf h1 h2
      obtain ⟨fu, rfl⟩ : ∃ z, fu = z + 1 := ⟨fu - 1, by omega⟩
      have hi : i = 1055 := by omega
      subst hi
      refine ⟨τ, ?_, h1, h2⟩
      show f_X12_undo_12 (fx2 f_X12_undo_12 fu) _ _ = _
      generalize fx2 f_X12_undo_12 fu = kk
      unfold f_X12_undo_12
      exact if_pos (by decide)
    | succ m ih =>
      intro i fu τ hi hf h1 h2
      obtain ⟨fu, rfl⟩ : ∃ z, fu = z + 1 := ⟨fu - 1, by omega⟩
      obtain ⟨μ', i1, i2, i3⟩ := ih (i + 1) fu (sI τ 1 i (gI τ 2 i)) (by omega) (by omega) (fun c hc => by rw [gIr _ _ _ hc, h1 c hc]) (fun j hj => by
        by_cases e : j = i
        · subst e
          rw [gI_ss, h1 2 (by omega)]
        · rw [gI_sk _ _ _ e]
          exact h2 j (by omega))
      refine ⟨μ', ?_, i2, i3⟩
      rw [← i1]
      show f_X12_undo_12 (fx2 f_X12_undo_12 fu) _ _ = _
      generalize fx2 f_X12_undo_12 fu = kk
      unfold f_X12_undo_12
      simp (disch := omega) only [lt_eq, bd_some, bv_some, li, pk_mul, nI_add, nIsub, nIlt, nIle, nIeq, nIdiv, nIrem, neg_, pos_, ib_nI, gd_true, nI_tn, gI_ss, gI_sk, gI_sc, ↓reduceIte, nIn1b]
  have hf : 1055 < FU := by decide
  exact key 1055 0 FU μ (by omega) hf (fun _ _ => rfl) (fun j hj => by omega)
theorem op_image (n : Nat) (σ μ : Mem) (hR : Rel (n + 1) σ μ) : ∃ (r : Int32) (σ1 μ1 : Mem), f_X11_image σ = some (r, σ1) ∧ f_X12_image μ = some (r, μ1) ∧ Rel n σ1 μ1 := by
  obtain ⟨hn, Am, M, hA, hH, hI, hp, hm, ha⟩ := hR
  obtain ⟨μ', i1, i2, i3⟩ := m_imageL μ
  obtain ⟨σ', s1, s2, s3⟩ := c_copyb hA (s' := gI μ' 2) i3
  have e1 : f_X11_image σ = some (nI M, sI σ' 0 6 1) := by
    simp only [bd_some, bv_some, lt_eq, ↓reduceIte, f_X11_image, s1]
    rw [gI_sc _ _ _ _ (by omega)]
    have : gI σ' 21 0 = nI M := s3.2.1
    rw [this]
  have e2 : f_X12_image μ = some (nI M, sI μ' 0 3 1) := by
    unfold f_X12_image
    rw [i1, gI_sc _ _ _ _ (by omega), i2 1 (by omega)]
    have : gI μ 1 0 = nI M := hA.2.2.1
    rw [this]
  have cz : ∀ c, c ≠ 0 → c < 21 ∨ 40 ≤ c → gI (sI σ' 0 6 1) c = gI σ c := fun c h0 hc => by rw [gIr _ _ _ h0]; exact s2 c (by omega)
  have mz : ∀ c, c ≠ 0 → c ≠ 2 → gI (sI μ' 0 3 1) c = gI μ c := fun c h0 hc => by rw [gIr _ _ _ h0]; exact i2 c hc
  refine ⟨_, _, _, e1, e2, by omega, Am, M, ?_, ?_, Or.inr ⟨gI_ss _ _ _ _, gI_ss _ _ _ _, M, Nat.le_refl _, ?_⟩, ?_, ?_, ?_⟩
  · rw [mz 1 (by omega) (by omega)]
    exact sAll_c hA (fun c h1 h2 => cz c (by omega) (by omega)) (fun c h1 h2 => cz c (by omega) (by omega))
  · exact fun k hk => cHours_c (hH k hk) (Nat.lt_of_lt_of_le hk hA.1) (fun c h1 h2 => cz c (by omega) (by omega))
  · rw [gIr μ' (c := 0) (c' := 2) _ _ (by omega)]
    exact sAll_c s3 (fun c h1 h2 => gIr _ _ _ (by omega)) (fun c h1 h2 => gIr _ _ _ (by omega))
  · rw [mz 1 (by omega) (by omega)]
    exact rPl_up hp (by omega) (by rw [cz 41 (by omega) (by omega)]) (by rw [cz 41 (by omega) (by omega)]) (cz 42 (by omega) (by omega)) (cz 43 (by omega) (by omega)) (cz 45 (by omega) (by omega)) (fun _ _ => rfl)
  · exact rMs_up hm (by omega) (by simp (disch := omega) only [gI_ss, gI_sk, gI_sc, i2]) (by simp (disch := omega) only [gI_ss, gI_sk, gI_sc, i2]) (mz 5 (by omega) (by omega)) (mz 10 (by omega) (by omega)) (mz 11 (by omega) (by omega))
  · exact rAc_same ha (by rw [cz 46 (by omega) (by omega)]) (cz 47 (by omega) (by omega)) (by simp (disch := omega) only [gI_ss, gI_sk, gI_sc, i2]) (mz 15 (by omega) (by omega))
theorem op_undo (n : Nat) (σ μ : Mem) (hR : Rel (n + 1) σ μ) : ∃ (r : Int32) (σ1 μ1 : Mem), f_X11_undo σ = some (r, σ1) ∧ f_X12_undo μ = some (r, μ1) ∧ Rel n σ1 μ1 := by
  have hi := rel_idle n σ μ hR
  obtain ⟨hn, Am, M, hA, hH, hI, hp, hm, ha⟩ := hR
  rcases hI with ⟨z1, z2⟩ | ⟨z1, z2, Mi, z3, hB⟩
  · exact ⟨-3, σ, μ, by unfold f_X11_undo; rw [if_pos z1], by unfold f_X12_undo; rw [if_pos z2], hi⟩
  obtain ⟨μ', i1, i2, i3⟩ := m_undoL μ
  obtain ⟨σ', s1, s2, s3⟩ := c_copya hB (s' := gI μ' 1) i3
  have e1 : f_X11_undo σ = some (nI Mi, sI σ' 41 4 (gI σ' 41 4 + 1)) := by
    simp only [bd_some, bv_some, lt_eq, ↓reduceIte, f_X11_undo, z1, e10_, s1, f_X5_forget]
    rw [gI_sc _ _ _ _ (by omega)]
    have : gI σ' 2 0 = nI Mi := s3.2.1
    rw [this]
  have e2 : f_X12_undo μ = some (nI Mi, μ') := by
    unfold f_X12_undo
    rw [z2, if_neg (by decide), i1, i3 0 (by omega)]
    have : gI μ 2 0 = nI Mi := hB.2.2.1
    rw [this]
  have cz : ∀ c, c ≠ 41 → c < 2 ∨ 21 ≤ c → gI (sI σ' 41 4 (gI σ' 41 4 + 1)) c = gI σ c := fun c h0 hc => by rw [gIr _ _ _ h0]; exact s2 c (by omega)
  refine ⟨_, _, _, e1, e2, by omega, Am, Mi, ?_, ?_, Or.inr ⟨by rw [cz 0 (by omega) (by omega)]; exact z1, by rw [i2 0 (by omega)]; exact z2, Mi, Nat.le_refl _, ?_⟩, ?_, ?_, ?_⟩
  · exact sAll_c s3 (fun c h1 h2 => gIr _ _ _ (by omega)) (fun c h1 h2 => gIr _ _ _ (by omega))
  · exact fun k hk => cHours_c (hH k (by omega)) (by have := hA.1; omega) (fun c h1 h2 => cz c (by omega) (by omega))
  · rw [i2 2 (by omega)]
    exact sAll_c hB (fun c h1 h2 => cz c (by omega) (by omega)) (fun c h1 h2 => cz c (by omega) (by omega))
  · exact rPl_fg hp (by omega) (by omega) (by rw [gI_ss, s2 41 (by omega)]) (by rw [gI_sk _ _ _ (by omega), s2 41 (by omega)]) (cz 43 (by omega) (by omega)) (cz 45 (by omega) (by omega))
  · exact rMs_up hm (by omega) (by rw [i2 0 (by omega)]) (by rw [i2 0 (by omega)]) (i2 5 (by omega)) (i2 10 (by omega)) (i2 11 (by omega))
  · exact rAc_same ha (by rw [cz 46 (by omega) (by omega)]) (cz 47 (by omega) (by omega)) (by rw [i2 0 (by omega)]) (i2 15 (by omega))
