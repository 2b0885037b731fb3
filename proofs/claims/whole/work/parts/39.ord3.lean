/-! AN ORDER MORE: its place among the turns -/
/-- the turns behind the place x moved up by one -/
def insI (τ σ : Mem) (t d : Nat → Nat) (due O x : Nat) : Prop := x ≤ O ∧ (∀ c, c ≠ 20 → gI τ c = gI σ c) ∧ (∀ i, i < x → gI τ 20 i = nI (t i)) ∧ (∀ i, x < i → i ≤ O → gI τ 20 i = nI (t (i - 1))) ∧ (∀ i, x ≤ i → i < O → due < d (t i))
theorem c_insert {σ : Mem} {O due : Nat} {t d : Nat → Nat} (hO : O < 6) (hdue : due ≤ 99) (g1 : gI σ 16 4 = nI O) (g3 : ∀ i, i < O → gI σ 18 i = nI (d i)) (b1 : ∀ i, i < O → d i ≤ 99) (h3 : ∀ i, i < O → t i < O) : ∀ (x fu : Nat) (τ : Mem), x < fu → insI τ σ t d due O x → ∃ (τ' : Mem) (x' : Nat), fx4 f_X4_append_54 fu (nI due) (nI x) (nI x) τ = some (nI O, sI (sI τ' 20 x' (nI O)) 16 4 (nI (O + 1))) ∧ insI τ' σ t d due O x' ∧ (x' = 0 ∨ d (t (x' - 1)) ≤ due) := by
  intro x
  induction x with
  | zero =>
    intro fu τ hf hi
    obtain ⟨fu, rfl⟩ : ∃ z, fu = z + 1 := ⟨fu - 1, by omega⟩
    refine ⟨τ, 0, ?_, hi, Or.inl rfl⟩
    obtain ⟨i1, i2, i3, i4, i5⟩ := hi
    have q1 : gI τ 16 4 = nI O := by rw [i2 16 (by omega)]; exact g1
    show f_X4_append_54 (fx4 f_X4_append_54 fu) _ _ _ _ = _
    generalize fx4 f_X4_append_54 fu = kk
    unfold f_X4_append_54 f_X4_append_105
    simp (disch := omega) only [lt_eq, bd_some, bv_some, li, pk_mul, nI_add, nIsub, nIlt, nIle, nIeq, nIdiv, nIrem, neg_, pos_, ib_nI, gd_true, nI_tn, gI_ss, gI_sk, gI_sc, ↓reduceIte, nIn1b, q1]
    rfl
  | succ x ih =>
    intro fu τ hf hi
    obtain ⟨fu, rfl⟩ : ∃ z, fu = z + 1 := ⟨fu - 1, by omega⟩
    have hi0 := hi
    obtain ⟨i1, i2, i3, i4, i5⟩ := hi
    have q1 : gI τ 16 4 = nI O := by rw [i2 16 (by omega)]; exact g1
    have ht := h3 x (by omega)
    have q2 : gI τ 18 (t x) = nI (d (t x)) := by rw [i2 18 (by omega)]; exact g3 _ ht
    have c1 := b1 _ ht
    by_cases hd : d (t x) ≤ due
    · refine ⟨τ, x + 1, ?_, hi0, Or.inr hd⟩
      show f_X4_append_54 (fx4 f_X4_append_54 fu) _ _ _ _ = _
      generalize fx4 f_X4_append_54 fu = kk
      unfold f_X4_append_54 f_X4_append_105
      simp (disch := omega) only [lt_eq, bd_some, bv_some, li, pk_mul, nI_add, nIsub, nIlt, nIle, nIeq, nIdiv, nIrem, neg_, pos_, ib_nI, gd_true, nI_tn, gI_ss, gI_sk, gI_sc, ↓reduceIte, nIn1b, q1, Nat.add_sub_cancel, i3 x (by omega), q2]
    · have hn : insI (sI τ 20 (x + 1) (nI (t x))) σ t d due O x := by
        refine ⟨by omega, fun c hc => ?_, fun i hi => ?_, fun i hi hi2 => ?_, fun i hi hi2 => ?_⟩
        · simp (disch := omega) only [gIr, gIrL]; exact i2 c hc
        · simp (disch := omega) only [gI_ss, gI_sk, gI_sc]; exact i3 i (by omega)
        · by_cases hx : i = x + 1
          · subst hx
            simp (disch := omega) only [gI_ss, gI_sk, gI_sc, Nat.add_sub_cancel]
          · simp (disch := omega) only [gI_ss, gI_sk, gI_sc]; exact i4 i (by omega) hi2
        · by_cases hx : i = x
          · subst hx
            omega
          · exact i5 i (by omega) hi2
      obtain ⟨τ', x', e1, e2, e3⟩ := ih fu _ (by omega) hn
      refine ⟨τ', x', ?_, e2, e3⟩
      rw [← e1]
      show f_X4_append_54 (fx4 f_X4_append_54 fu) _ _ _ _ = _
      generalize fx4 f_X4_append_54 fu = kk
      unfold f_X4_append_54 f_X4_append_105
      simp (disch := omega) only [lt_eq, bd_some, bv_some, li, pk_mul, nI_add, nIsub, nIlt, nIle, nIeq, nIdiv, nIrem, neg_, pos_, ib_nI, gd_true, nI_tn, gI_ss, gI_sk, gI_sc, ↓reduceIte, nIn1b, q1, Nat.add_sub_cancel, i3 x (by omega), q2]
      rw [show (-nI 1 : Int32) = -1 from rfl, pk_m1]
/-- the turns with one more -/
def insT (t : Nat → Nat) (O x : Nat) : Nat → Nat := fun i => if i < x then t i else if i = x then O else t (i - 1)
theorem op_order (n : Nat) (σ μ : Mem) (p1 p2 p3 : Int32) (hR : Rel (n + 1) σ μ) : ∃ (r : Int32) (σ1 μ1 : Mem), f_X11_order p1 p2 p3 σ = some (r, σ1) ∧ f_X12_order p1 p2 p3 μ = some (r, μ1) ∧ Rel n σ1 μ1 := by
  have hi := rel_idle n σ μ hR
  obtain ⟨hn, Am, M, ⟨g1, g2, g3, g4, g5, g6, g7, g8, ⟨d1, O, d2, d3, h, d, q, d4, t, d5, d6, d7⟩, g10⟩, hH, hI, hp, hm, ha⟩ := hR
  have d1 : gI σ 16 4 = nI O := d1.trans d3
  have d3 : gI μ 1 3 = nI O := d3
  by_cases h1 : wi p1 1 20 = 0
  · exact ⟨-2, σ, μ, by simp only [bd_some, bv_some, lt_eq, ↓reduceIte, f_X11_order, c_within, h1], by simp only [bd_some, bv_some, lt_eq, ↓reduceIte, f_X12_order, m_within, h1], hi⟩
  by_cases h2 : wi p2 1 99 = 0
  · exact ⟨-2, σ, μ, by simp only [bd_some, bv_some, lt_eq, ↓reduceIte, f_X11_order, c_within, h1, h2], by simp only [bd_some, bv_some, lt_eq, ↓reduceIte, f_X12_order, m_within, h1, h2], hi⟩
  by_cases h3 : wi p3 0 99 = 0
  · exact ⟨-2, σ, μ, by simp only [bd_some, bv_some, lt_eq, ↓reduceIte, f_X11_order, c_within, h1, h2, h3], by simp only [bd_some, bv_some, lt_eq, ↓reduceIte, f_X12_order, m_within, h1, h2, h3], hi⟩
  by_cases h4 : O = 6
  · subst h4
    have ca : ¬ gI σ 16 4 < 6 := by rw [d1]; decide
    have cb : gI μ 1 3 = 6 := d3
    exact ⟨-4, σ, μ, by simp only [bd_some, bv_some, lt_eq, ↓reduceIte, f_X11_order, c_within, h1, h2, h3, ca], by simp only [bd_some, bv_some, lt_eq, ↓reduceIte, f_X12_order, m_within, h1, h2, h3, cb], hi⟩
  obtain ⟨a, a1, a2, rfl⟩ := wi_nat (lo := 1) (hi := 20) h1 (by omega) (by omega)
  obtain ⟨b, b1, b2, rfl⟩ := wi_nat (lo := 1) (hi := 99) h2 (by omega) (by omega)
  obtain ⟨c, -, c2, rfl⟩ := wi_nat (lo := 0) (hi := 99) h3 (by omega) (by omega)
  have hd : f_X12_order (nI a) (nI b) (nI c) μ = some (nI O, sI (sI (sI (sI μ 1 (1037 + O) (nI a)) 1 (1043 + O) (nI b)) 1 (1049 + O) (nI c)) 1 3 (nI (O + 1))) := by
    simp only [bd_some, bv_some, lt_eq, ↓reduceIte, f_X12_order, m_within, h1, h2, h3]
    simp (disch := omega) only [lt_eq, bd_some, bv_some, li, pk_mul, nI_add, nIsub, nIlt, nIle, nIeq, nIdiv, nIrem, neg_, pos_, ib_nI, gd_true, nI_tn, gI_ss, gI_sk, gI_sc, ↓reduceIte, nIn1b, d3]
  obtain ⟨S, hS⟩ : ∃ S, S = sI (sI (sI σ 17 O (nI a)) 18 O (nI b)) 19 O (nI c) := ⟨_, rfl⟩
  have s1 : gI S 16 4 = nI O := by rw [hS]; simp (disch := omega) only [gI_ss, gI_sk, gI_sc]; exact d1
  have s2 : ∀ i, i < O → gI S 18 i = nI (d i) := fun i hi => by rw [hS]; simp (disch := omega) only [gI_ss, gI_sk, gI_sc]; exact (d4 i hi).2.2.1
  have hdc : ∀ c, c ≠ 17 → c ≠ 18 → c ≠ 19 → gI S c = gI σ c := fun c h1 h2 h3 => by rw [hS]; simp (disch := omega) only [gIr, gIrL]
  have hf : 6 < FU := by decide
  obtain ⟨τ, x, e1, ⟨i1, i2, i3, i4, i5⟩, e3⟩ := c_insert (σ := S) (O := O) (due := b) (t := t) (d := d) (by omega) b2 s1 s2 (fun i hi => (d4 i hi).2.2.2.2.2.2.2.2.2.1) (fun i hi => (d5 i hi).2) O FU S (by omega) ⟨Nat.le_refl _, fun _ _ => rfl, fun i hi => by rw [hdc 20 (by omega) (by omega) (by omega)]; exact (d5 i hi).1, fun i h1 h2 => by omega, fun i h1 h2 => by omega⟩
  have hc : f_X11_order (nI a) (nI b) (nI c) σ = some (nI O, sI (sI τ 20 x (nI O)) 16 4 (nI (O + 1))) := by
    simp only [bd_some, bv_some, lt_eq, ↓reduceIte, f_X11_order, c_within, h1, h2, h3, f_X4_append]
    simp (disch := omega) only [lt_eq, bd_some, bv_some, li, pk_mul, nI_add, nIsub, nIlt, nIle, nIeq, nIdiv, nIrem, neg_, pos_, ib_nI, gd_true, nI_tn, gI_ss, gI_sk, gI_sc, ↓reduceIte, nIn1b, d1]
    rw [← hS, e1]
    rfl
  have hτ : ∀ c, c ≠ 17 → c ≠ 18 → c ≠ 19 → c ≠ 20 → gI τ c = gI σ c := fun c h1 h2 h3 h4 => by rw [i2 c h4, hdc c h1 h2 h3]
  have hw : ∀ c, c ≠ 16 → c ≠ 17 → c ≠ 18 → c ≠ 19 → c ≠ 20 → gI (sI (sI τ 20 x (nI O)) 16 4 (nI (O + 1))) c = gI σ c := fun c h0 h1 h2 h3 h4 => by simp (disch := omega) only [gIr, gIrL]; exact hτ c h1 h2 h3 h4
  refine ⟨_, _, _, hc, hd, by omega, Am, M, ⟨g1, ?_, ?_, ?_, ?_, ?_, ?_, ?_, ?_, ?_⟩, ?_, ?_, ?_, ?_, ?_⟩
  · rw [hw 2 (by omega) (by omega) (by omega) (by omega) (by omega)]; exact g2
  · simp (disch := omega) only [gI_ss, gI_sk, gI_sc]; exact g3
  · rw [hw (2 + 1) (by omega) (by omega) (by omega) (by omega) (by omega), hw (2 + 2) (by omega) (by omega) (by omega) (by omega) (by omega)]
    exact sTape_m g4 (fun j hj => by simp (disch := omega) only [gI_ss, gI_sk, gI_sc])
  · rw [hw (2 + 4) (by omega) (by omega) (by omega) (by omega) (by omega)]
    exact sWinds_m g5 (fun j hj => by simp (disch := omega) only [gI_ss, gI_sk, gI_sc])
  · rw [hw (2 + 5) (by omega) (by omega) (by omega) (by omega) (by omega)]
    exact sLed_m g6 (fun j hj => by simp (disch := omega) only [gI_ss, gI_sk, gI_sc])
  · rw [hw (2 + 6) (by omega) (by omega) (by omega) (by omega) (by omega), hw (2 + 7) (by omega) (by omega) (by omega) (by omega) (by omega), hw (2 + 8) (by omega) (by omega) (by omega) (by omega) (by omega), hw (2 + 9) (by omega) (by omega) (by omega) (by omega) (by omega), hw (2 + 10) (by omega) (by omega) (by omega) (by omega) (by omega)]
    exact sRules_m g7 (fun j hj => by simp (disch := omega) only [gI_ss, gI_sk, gI_sc])
  · rw [hw (2 + 11) (by omega) (by omega) (by omega) (by omega) (by omega), hw (2 + 12) (by omega) (by omega) (by omega) (by omega) (by omega), hw (2 + 13) (by omega) (by omega) (by omega) (by omega) (by omega)]
    exact sDay_m g8 (fun j hj => by simp (disch := omega) only [gI_ss, gI_sk, gI_sc])
  · have rw17 : gI (sI (sI τ 20 x (nI O)) 16 4 (nI (O + 1))) 17 = gI S 17 := by simp (disch := omega) only [gIr, gIrL]; exact i2 17 (by omega)
    have rw18 : gI (sI (sI τ 20 x (nI O)) 16 4 (nI (O + 1))) 18 = gI S 18 := by simp (disch := omega) only [gIr, gIrL]; exact i2 18 (by omega)
    have rw19 : gI (sI (sI τ 20 x (nI O)) 16 4 (nI (O + 1))) 19 = gI S 19 := by simp (disch := omega) only [gIr, gIrL]; exact i2 19 (by omega)
    refine ⟨by simp (disch := omega) only [gI_ss, gI_sk, gI_sc], O + 1, by omega, by simp (disch := omega) only [gI_ss, gI_sk, gI_sc], fun i => if i = O then a else h i, fun i => if i = O then b else d i, fun i => if i = O then c else q i, fun i hi => ?_, insT t O x, fun i hi => ?_, fun i j hij hj => ?_, fun o ho => ?_⟩
    · show gI (sI (sI τ 20 x (nI O)) 16 4 (nI (O + 1))) 17 i = _ ∧ _ ∧ gI (sI (sI τ 20 x (nI O)) 16 4 (nI (O + 1))) 18 i = _ ∧ _ ∧ gI (sI (sI τ 20 x (nI O)) 16 4 (nI (O + 1))) 19 i = _ ∧ _
      rw [rw17, rw18, rw19, hS]
      by_cases hiO : i = O
      · subst hiO
        simp only [↓reduceIte]
        refine ⟨?_, ?_, ?_, ?_, ?_, ?_, a1, a2, b1, b2, c2⟩ <;> simp (disch := omega) only [gI_ss, gI_sk, gI_sc]
      · simp only [hiO, ↓reduceIte]
        obtain ⟨z1, z2, z3, z4, z5, z6, z7⟩ := d4 i (by omega)
        refine ⟨?_, ?_, ?_, ?_, ?_, ?_, z7⟩
        · simp (disch := omega) only [gI_ss, gI_sk, gI_sc]; exact z1
        · simp (disch := omega) only [gI_ss, gI_sk, gI_sc]; exact z2
        · simp (disch := omega) only [gI_ss, gI_sk, gI_sc]; exact z3
        · simp (disch := omega) only [gI_ss, gI_sk, gI_sc]; exact z4
        · simp (disch := omega) only [gI_ss, gI_sk, gI_sc]; exact z5
        · simp (disch := omega) only [gI_ss, gI_sk, gI_sc]; exact z6
    · show gI (sI (sI τ 20 x (nI O)) 16 4 (nI (O + 1))) 20 i = _ ∧ _
      unfold insT
      by_cases hx1 : i < x
      · rw [if_pos hx1]
        have := (d5 i (by omega)).2
        refine ⟨?_, by omega⟩
        simp (disch := omega) only [gI_ss, gI_sk, gI_sc]; exact i3 i hx1
      · rw [if_neg hx1]
        by_cases hx2 : i = x
        · subst hx2
          rw [if_pos rfl]
          refine ⟨?_, by omega⟩
          simp (disch := omega) only [gI_ss, gI_sk, gI_sc]
        · rw [if_neg hx2]
          have := (d5 (i - 1) (by omega)).2
          refine ⟨?_, by omega⟩
          simp (disch := omega) only [gI_ss, gI_sk, gI_sc]; exact i4 i (by omega) (by omega)
    · have low : ∀ i, i < x → i < O → d (t i) ≤ b := by
        intro i hi hiO
        rcases e3 with e | e
        · omega
        · by_cases hix : i = x - 1
          · subst hix
            exact e
          · have := d6 i (x - 1) (by omega) (by omega)
            omega
      unfold insT
      dsimp only
      by_cases k1 : j < x
      · rw [if_pos k1, if_pos (show i < x by omega)]
        have t1 := (d5 i (by omega)).2
        have t2 := (d5 j (by omega)).2
        rw [if_neg (show ¬ t i = O by omega), if_neg (show ¬ t j = O by omega)]
        exact d6 i j hij (by omega)
      · rw [if_neg k1]
        by_cases k2 : j = x
        · rw [if_pos k2, if_pos (show i < x by omega), if_pos rfl]
          have t1 := (d5 i (by omega)).2
          rw [if_neg (show ¬ t i = O by omega)]
          have := low i (by omega) (by omega)
          omega
        · rw [if_neg k2]
          have t2 := (d5 (j - 1) (by omega)).2
          rw [if_neg (show ¬ t (j - 1) = O by omega)]
          by_cases k3 : i < x
          · rw [if_pos k3]
            have t1 := (d5 i (by omega)).2
            rw [if_neg (show ¬ t i = O by omega)]
            exact d6 i (j - 1) (by omega) (by omega)
          · rw [if_neg k3]
            by_cases k4 : i = x
            · rw [if_pos k4, if_pos rfl]
              exact Or.inl (i5 (j - 1) (by omega) (by omega))
            · rw [if_neg k4]
              have t1 := (d5 (i - 1) (by omega)).2
              rw [if_neg (show ¬ t (i - 1) = O by omega)]
              exact d6 (i - 1) (j - 1) (by omega) (by omega)
    · by_cases hoO : o = O
      · exact ⟨x, by omega, by unfold insT; rw [if_neg (by omega), if_pos rfl, hoO]⟩
      · obtain ⟨i, z1, z2⟩ := d7 o (by omega)
        by_cases hix : i < x
        · exact ⟨i, by omega, by unfold insT; rw [if_pos hix, z2]⟩
        · exact ⟨i + 1, by omega, by unfold insT; rw [if_neg (by omega), if_neg (by omega), Nat.add_sub_cancel, z2]⟩
  · exact sMills_c (sMills_m g10 g1 (fun j hj => by simp (disch := omega) only [gI_ss, gI_sk, gI_sc])) g1 (fun c h1 h2 => hw c (by omega) (by omega) (by omega) (by omega) (by omega))
  · exact fun k hk => cHours_c (hH k hk) (by omega) (fun c h1 h2 => hw c (by omega) (by omega) (by omega) (by omega) (by omega))
  · exact rIm_c hI (by omega) (by rw [hw 0 (by omega) (by omega) (by omega) (by omega) (by omega)]) rfl rfl (fun c h1 h2 => hw c (by omega) (by omega) (by omega) (by omega) (by omega)) (fun c h1 h2 => hw c (by omega) (by omega) (by omega) (by omega) (by omega))
  · exact rPl_up hp (by omega) (by rw [hw 41 (by omega) (by omega) (by omega) (by omega) (by omega)]) (by rw [hw 41 (by omega) (by omega) (by omega) (by omega) (by omega)]) (hw 42 (by omega) (by omega) (by omega) (by omega) (by omega)) (hw 43 (by omega) (by omega) (by omega) (by omega) (by omega)) (hw 45 (by omega) (by omega) (by omega) (by omega) (by omega)) (fun j hj => by simp (disch := omega) only [gI_ss, gI_sk, gI_sc])
  · exact rMs_up hm (by omega) rfl rfl rfl rfl rfl
  · exact rAc_same ha (by rw [hw 46 (by omega) (by omega) (by omega) (by omega) (by omega)]) (hw 47 (by omega) (by omega) (by omega) (by omega) (by omega)) rfl rfl
