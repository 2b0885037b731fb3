/-! MILL: the class's way and the model's -/
theorem fill_0 (o : Nat) : ∀ (n fu i : Nat) (σ : Mem), i + n = 4800 → n < fu → ∃ σ', fx4 (f_J7_fill_53178_5 o) fu (0 : Int32) (nI i) (4800 : Int32) σ = some σ' ∧ (∀ r, r ≠ o + 6 → gI σ' r = gI σ r) ∧ (∀ j, j < i → gI σ' (o + 6) j = gI σ (o + 6) j) ∧ ∀ j, i ≤ j → j < 4800 → gI σ' (o + 6) j = 0 := by
  intro n
  induction n with
  | zero =>
    intro fu i σ hi hf
    obtain ⟨fu, rfl⟩ : ∃ z, fu = z + 1 := ⟨fu - 1, by omega⟩
    have hi : i = 4800 := by omega
    subst hi
    refine ⟨σ, ?_, fun _ _ => rfl, fun _ _ => rfl, fun j a b => by omega⟩
    show f_J7_fill_53178_5 o (fx4 (f_J7_fill_53178_5 o) fu) _ _ _ _ = _
    generalize fx4 (f_J7_fill_53178_5 o) fu = kk
    unfold f_J7_fill_53178_5
    rw [if_pos (by decide)]
  | succ n ih =>
    intro fu i σ hi hf
    obtain ⟨fu, rfl⟩ : ∃ z, fu = z + 1 := ⟨fu - 1, by omega⟩
    obtain ⟨σ', a1, a2, a3, a4⟩ := ih fu (i + 1) (sI σ (o + 6) i 0) (by omega) (by omega)
    refine ⟨σ', ?_, fun r hr => ?_, fun j hj => ?_, fun j u v => ?_⟩
    · rw [← a1]
      show f_J7_fill_53178_5 o (fx4 (f_J7_fill_53178_5 o) fu) _ _ _ _ = _
      generalize fx4 (f_J7_fill_53178_5 o) fu = kk
      unfold f_J7_fill_53178_5
      rw [if_neg (show ¬ (4800 : Int32) ≤ nI i from nI_ge (b := 4800) (by omega) (by omega)), ib_nI (by omega) (by omega), gd_true, nI_tn (by omega), lt_eq, lt_eq, nI_1]
    · rw [a2 r hr, gIr _ _ _ hr]
    · rw [a3 j (by omega), gI_sk _ _ _ (by omega)]
    · by_cases q : j = i
      · subst q
        rw [a3 j (by omega), gI_ss]
      · exact a4 j (by omega) v
theorem clear_ (o : Nat) (σ : Mem) : ∃ σ', f_X3_clear o σ = some σ' ∧ (∀ r, r ≠ o → r ≠ o + 6 → gI σ' r = gI σ r) ∧ gI σ' o 6 = 0 ∧ gI σ' o 7 = 0 ∧ gI σ' o 8 = 0 ∧ gI σ' o 9 = 99 ∧ gI σ' o 10 = 99 ∧ ∀ j, j < 4800 → gI σ' (o + 6) j = 0 := by
  have hF : 4801 < FU := by decide
  obtain ⟨σ1, a1, a2, a3, a4⟩ := fill_0 o 4800 FU 0 σ (by omega) (by omega)
  have e : f_J7_fill_53178 o (0 : Int32) σ = some σ1 := a1
  unfold f_X3_clear
  rw [e, bv_some, lt_eq, lt_eq, lt_eq, lt_eq, lt_eq]
  refine ⟨_, rfl, fun r u v => ?_, ?_, ?_, ?_, ?_, ?_, fun j hj => ?_⟩
  · rw [gIr _ _ _ u, gIr _ _ _ u, gIr _ _ _ u, gIr _ _ _ u, gIr _ _ _ u, a2 r v]
  · simp (disch := omega) only [gI_ss, gI_sk, gI_sc]
  · simp (disch := omega) only [gI_ss, gI_sk, gI_sc]
  · simp (disch := omega) only [gI_ss, gI_sk, gI_sc]
  · simp (disch := omega) only [gI_ss, gI_sk, gI_sc]
  · simp (disch := omega) only [gI_ss, gI_sk, gI_sc]
  · simp (disch := omega) only [gI_ss, gI_sk, gI_sc]
    exact a4 j (by omega) hj
section MILL
variable {k t : Nat} {B : Nat → Nat}
def Out (k t : Nat) (B : Nat → Nat) (cl : Nat) (r : Int32) (σ μ : Mem) : Prop := (r = 1 ∧ ∃ p c m ec G v8 v9 v10, CLS k t B cl p c m ec G v8 v9 v10 σ μ) ∨ (r = 0 ∧ ∃ p', p' ≤ t ∧ t ≤ 120 ∧ gI σ 40 2 = nI p' ∧ gI μ 0 5 = nI p' ∧ gI μ 0 7 = 1)
theorem Out_CR {cl p : Nat} {r : Int32} {σ μ σ' μ' : Mem} (ht : t ≤ 120) (h : CR k t B cl p r σ μ σ' μ') : F2c k σ σ' ∧ F2m k μ μ' ∧ Out k t B (cl + 1) r σ' μ' := by
  obtain ⟨h1, h2, h3⟩ := h
  refine ⟨h1, h2, ?_⟩
  rcases h3 with ⟨rfl, p', c', m', ec', G', v8, v9, v10, -, h4⟩ | ⟨rfl, p', h4, h5⟩
  · exact Or.inl ⟨rfl, p', c', m', ec', G', v8, v9, v10, h4⟩
  · exact Or.inr ⟨rfl, p', h4, ht, h5⟩
theorem CLS_p {cl p p' c m ec v8 v9 v10 : Nat} {G : Nat → (Nat → Int32) → Nat} {σ μ σ' μ' : Mem} (h : CLS k t B cl p c m ec G v8 v9 v10 σ μ) (a : o40 σ σ') (b : o0 μ μ') (a2 : gI σ' 40 2 = nI p') (b2 : gI μ' 0 5 = nI p') (b7 : gI μ' 0 7 = 0) (hp : p ≤ p') (hp2 : p' ≤ t) : CLS k t B cl p' c m ec G v8 v9 v10 σ' μ' := by
  obtain ⟨hP, s6, s0, s3, sec, sCT, sMT, sG, V1, ⟨V2, V3, V4⟩, V5, V6, V7⟩ := h
  have r0 : ∀ i, gI σ' (mo k + i) = gI σ (mo k + i) := fun i => a.1 _ (by unfold mo; omega)
  have r1 : gI σ' (mo k) = gI σ (mo k) := r0 0
  have m1 : gI μ' 1 = gI μ 1 := b.1 1 (by omega)
  exact ⟨PS_p hP a b a2 b2 b7 hp hp2, by rw [r1]; exact s6, s0, fun z => by rw [r0]; exact s3 z, sec, CT_c sCT (fun i _ _ j _ => by rw [r0]) (fun j _ => by rw [r0]), by rw [m1]; exact sMT, sG, V1, ⟨by rw [r1]; exact V2, by rw [r1]; exact V3, by rw [r1]; exact V4⟩, by rw [m1]; exact V5, by rw [m1]; exact V6, by rw [m1]; exact V7⟩
theorem J_loop : ∀ (n cl fu1 fu2 : Nat) (r : Int32) (σ μ : Mem), cl + n = 10 → n + 1 < fu1 → n + 1 < fu2 → Out k t B cl r σ μ → ∃ r' σ' μ', fx3 (f_X6_read_30 (mo k)) fu1 r (nI cl) σ = some (r', σ') ∧ fx2 f_X12_mill_119 fu2 (nI cl) μ = f_X12_mill_161 μ' ∧ F2c k σ σ' ∧ F2m k μ μ' ∧ ((r' = -1 ∧ gI μ' 0 7 = 0 ∧ gI μ' 0 5 = gI μ' 0 6 ∧ ∃ cl' p c m ec G v8 v9 v10, CLS k t B cl' p c m ec G v8 v9 v10 σ' μ') ∨ (∃ p', p' ≤ t ∧ t ≤ 120 ∧ r' = nI p' ∧ f_X12_mill_161 μ' = some ((-10 : Int32) - nI p', μ'))) := by
  intro n
  induction n with
  | zero =>
    intro cl fu1 fu2 r σ μ hn h1 h2 hO
    obtain ⟨fu1, rfl⟩ : ∃ z, fu1 = z + 1 := ⟨fu1 - 1, by omega⟩
    obtain ⟨fu2, rfl⟩ : ∃ z, fu2 = z + 1 := ⟨fu2 - 1, by omega⟩
    have hc : cl = 10 := by omega
    subst hc
    rcases hO with ⟨rfl, p, c, m, ec, G, v8, v9, v10, hS⟩ | ⟨rfl, p', p1, p2, p3, p4, p5⟩
    · obtain ⟨z1, z2, z3, z4, z5, z6, z7, z8, z9, z10, z11, z12, z13, z14, z15, z16⟩ := id hS.1
      have t120 := z1.2.2.2.1
      have e2 : fx2 f_X12_mill_119 (fu2 + 1) (nI 10) μ = f_X12_mill_161 μ := by
        show f_X12_mill_119 (fx2 f_X12_mill_119 fu2) _ _ = _
        generalize fx2 f_X12_mill_119 fu2 = kk
        unfold f_X12_mill_119
        rw [if_pos z8, if_pos (by decide)]
      have e1 : fx3 (f_X6_read_30 (mo k)) (fu1 + 1) 1 (nI 10) σ = f_X6_read_78 (mo k) 1 σ := by
        show f_X6_read_30 (mo k) (fx3 (f_X6_read_30 (mo k)) fu1) _ _ _ = _
        generalize fx3 (f_X6_read_30 (mo k)) fu1 = kk
        unfold f_X6_read_30
        rw [if_pos (by decide)]
      rw [e1, e2]
      unfold f_X6_read_78
      rw [if_neg (by decide), decide_eq_true z1.2.2.1, gd_true, z3, z1.1]
      by_cases q : p = t
      · rw [if_pos (by rw [q])]
        exact ⟨-1, σ, μ, rfl, rfl, F2c_refl _ _, F2m_refl _ _, Or.inl ⟨rfl, z8, by rw [z7, z5.1, q], 10, p, c, m, ec, G, v8, v9, v10, hS⟩⟩
      · have q' : ¬ nI p = nI t := by rw [nIeq (by omega) (by omega)]; exact q
        rw [if_neg q']
        refine ⟨nI p, σ, μ, rfl, rfl, F2c_refl _ _, F2m_refl _ _, Or.inr ⟨p, z11, t120, rfl, ?_⟩⟩
        unfold f_X12_mill_161
        rw [if_pos z8, z7, z5.1, if_neg q']
    · have e2 : fx2 f_X12_mill_119 (fu2 + 1) (nI 10) μ = f_X12_mill_161 μ := by
        show f_X12_mill_119 (fx2 f_X12_mill_119 fu2) _ _ = _
        generalize fx2 f_X12_mill_119 fu2 = kk
        unfold f_X12_mill_119
        rw [if_neg (by rw [p5]; decide)]
      have e1 : fx3 (f_X6_read_30 (mo k)) (fu1 + 1) 0 (nI 10) σ = f_X6_read_78 (mo k) 0 σ := by
        show f_X6_read_30 (mo k) (fx3 (f_X6_read_30 (mo k)) fu1) _ _ _ = _
        generalize fx3 (f_X6_read_30 (mo k)) fu1 = kk
        unfold f_X6_read_30
        rw [if_pos (by decide)]
      rw [e1, e2]
      unfold f_X6_read_78
      rw [if_pos rfl, p3]
      refine ⟨nI p', σ, μ, rfl, rfl, F2c_refl _ _, F2m_refl _ _, Or.inr ⟨p', p1, p2, rfl, ?_⟩⟩
      unfold f_X12_mill_161
      rw [if_neg (by rw [p5]; decide), p4]
  | succ n ih =>
    intro cl fu1 fu2 r σ μ hn h1 h2 hO
    obtain ⟨fu1, rfl⟩ : ∃ z, fu1 = z + 1 := ⟨fu1 - 1, by omega⟩
    obtain ⟨fu2, rfl⟩ : ∃ z, fu2 = z + 1 := ⟨fu2 - 1, by omega⟩
    rcases hO with ⟨rfl, p, c, m, ec, G, v8, v9, v10, hS⟩ | ⟨rfl, p', p1, p2, p3, p4, p5⟩
    · obtain ⟨z1, z2, z3, z4, z5, z6, z7, z8, z9, z10, z11, z12, z13, z14, z15, z16⟩ := id hS.1
      have t120 := z1.2.2.2.1
      have h59 : (at_ t B p = (59 : Int32)) = (p < t ∧ B p = 59) := at_eq z1.2.2.2.2 (c := 59) (by omega)
      have e2 : fx2 f_X12_mill_119 (fu2 + 1) (nI cl) μ = if p < t ∧ B p = 59 then (bv (f_X12_clauseHere (sI μ 0 5 (nI (p + 1)))) fun τ => fx2 f_X12_mill_119 fu2 (nI (cl + 1)) τ) else f_X12_mill_161 μ := by
        show f_X12_mill_119 (fx2 f_X12_mill_119 fu2) _ _ = _
        generalize fx2 f_X12_mill_119 fu2 = kk
        unfold f_X12_mill_119
        rw [if_pos z8, if_neg (show ¬ (10 : Int32) ≤ nI cl from nI_ge (b := 10) (by omega) (by omega)), m_here z5 z7 (by omega), bd_some]
        by_cases q : p < t ∧ B p = 59
        · rw [if_pos q, if_pos (h59.mpr q), lt_eq, z7, nI_1]
          simp only [lt_eq, nI_1]
        · rw [if_neg q, if_neg (fun z => q (h59.mp z))]
      have e1 : fx3 (f_X6_read_30 (mo k)) (fu1 + 1) 1 (nI cl) σ = if p < t ∧ B p = 59 then (bd (f_X6_readClause (sI σ 40 2 (nI (p + 1)))) fun r τ => fx3 (f_X6_read_30 (mo k)) fu1 r (nI (cl + 1)) τ) else f_X6_read_78 (mo k) 1 σ := by
        show f_X6_read_30 (mo k) (fx3 (f_X6_read_30 (mo k)) fu1) _ _ _ = _
        generalize fx3 (f_X6_read_30 (mo k)) fu1 = kk
        unfold f_X6_read_30
        rw [if_neg (show ¬ (10 : Int32) ≤ nI cl from nI_ge (b := 10) (by omega) (by omega)), if_neg (by decide), decide_eq_true z1.2.2.1, gd_true, z3, c_at z1 (by omega), bd_some]
        by_cases q : p < t ∧ B p = 59
        · rw [if_pos q, if_pos (h59.mpr q), lt_eq, z3, nI_1]
          simp only [lt_eq, nI_1]
        · rw [if_neg q, if_neg (fun z => q (h59.mp z))]
      rw [e1, e2]
      by_cases q : p < t ∧ B p = 59
      · rw [if_pos q, if_pos q]
        have S1 : CLS k t B cl (p + 1) c m ec G v8 v9 v10 (sI σ 40 2 (nI (p + 1))) (sI μ 0 5 (nI (p + 1))) := CLS_p hS (o40_s _ _) (o0_5 _ _) (gI_ss _ _ _ _) (gI_ss _ _ _ _) (by rw [gI_sk _ _ _ (by omega)]; exact z8) (by omega) (by omega)
        obtain ⟨r1, σ1, μ1, b1, b2, b3⟩ := J_clause (by omega) S1
        obtain ⟨b4, b5, b6⟩ := Out_CR t120 b3
        obtain ⟨r', σ', μ', d1, d2, d3, d4, d5⟩ := ih (cl + 1) fu1 fu2 r1 σ1 μ1 (by omega) (by omega) (by omega) b6
        rw [b1, bd_some, b2, bv_some]
        exact ⟨r', σ', μ', d1, d2, F2c_trans (F2c_o (o40_s _ _)) (F2c_trans b4 d3), F2m_trans (F2m_o (o0_5 _ _)) (F2m_trans b5 d4), d5⟩
      · rw [if_neg q, if_neg q]
        unfold f_X6_read_78
        rw [if_neg (by decide), decide_eq_true z1.2.2.1, gd_true, z3, z1.1]
        by_cases q : p = t
        · rw [if_pos (by rw [q])]
          exact ⟨-1, σ, μ, rfl, rfl, F2c_refl _ _, F2m_refl _ _, Or.inl ⟨rfl, z8, by rw [z7, z5.1, q], cl, p, c, m, ec, G, v8, v9, v10, hS⟩⟩
        · have q' : ¬ nI p = nI t := by rw [nIeq (by omega) (by omega)]; exact q
          rw [if_neg q']
          refine ⟨nI p, σ, μ, rfl, rfl, F2c_refl _ _, F2m_refl _ _, Or.inr ⟨p, z11, t120, rfl, ?_⟩⟩
          unfold f_X12_mill_161
          rw [if_pos z8, z7, z5.1, if_neg q']
    · have e2 : fx2 f_X12_mill_119 (fu2 + 1) (nI cl) μ = f_X12_mill_161 μ := by
        show f_X12_mill_119 (fx2 f_X12_mill_119 fu2) _ _ = _
        generalize fx2 f_X12_mill_119 fu2 = kk
        unfold f_X12_mill_119
        rw [if_neg (by rw [p5]; decide)]
      have e1 : fx3 (f_X6_read_30 (mo k)) (fu1 + 1) 0 (nI cl) σ = f_X6_read_78 (mo k) 0 σ := by
        show f_X6_read_30 (mo k) (fx3 (f_X6_read_30 (mo k)) fu1) _ _ _ = _
        generalize fx3 (f_X6_read_30 (mo k)) fu1 = kk
        unfold f_X6_read_30
        rw [if_neg (show ¬ (10 : Int32) ≤ nI cl from nI_ge (b := 10) (by omega) (by omega)), if_pos rfl]
      rw [e1, e2]
      unfold f_X6_read_78
      rw [if_pos rfl, p3]
      refine ⟨nI p', σ, μ, rfl, rfl, F2c_refl _ _, F2m_refl _ _, Or.inr ⟨p', p1, p2, rfl, ?_⟩⟩
      unfold f_X12_mill_161
      rw [if_neg (by rw [p5]; decide), p4]
end MILL
