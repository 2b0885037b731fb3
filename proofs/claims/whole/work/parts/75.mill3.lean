/-! MILL: the whole of it -/
theorem J_read {t M : Nat} {B : Nat → Nat} {σ μ : Mem} (hM : M < 5) (h20 : gI σ 2 0 = nI M) (h10 : gI μ 1 0 = nI M) (c31 : gI σ 3 1 = nI t) (c14 : gI μ 1 4 = nI t) (ht : t ≤ 120) (hB : ∀ j, j < t → B j ≤ 255) (hc : ∀ j, j < t → gI σ 4 j &&& 255 = nI (B j)) (hm : ∀ j, j < t → gI μ 1 (11 + j) = nI (B j)) : ∃ r' σ' μ', f_X6_read (mo M) σ = some (r', σ') ∧ f_X12_mill μ = f_X12_mill_161 μ' ∧
    (∀ r, r ≠ 40 → (r < mo M ∨ mo M + 7 ≤ r) → gI σ' r = gI σ r) ∧ (∀ j, j < 4800 → gI σ' (mo M + 6) j = 0) ∧ (∀ r, r ≠ 0 → r ≠ 1 → gI μ' r = gI μ r) ∧ (∀ j, j ≠ 4 → j ≠ 5 → j ≠ 6 → j ≠ 7 → j ≠ 8 → gI μ' 0 j = gI μ 0 j) ∧ (∀ j, j ≠ 4 → j ≠ 131 + M → j ≠ 136 + M → j ≠ 141 + M → j ≠ 146 + M → (j < 151 + 140 * M ∨ 291 + 140 * M ≤ j) → gI μ' 1 j = gI μ 1 j) ∧ gI μ' 1 4 = 0 ∧ gI μ' 0 4 = nI M ∧
    ((r' = -1 ∧ gI μ' 0 7 = 0 ∧ gI μ' 0 5 = gI μ' 0 6 ∧ ∃ cl' p c m ec G v8 v9 v10, CLS M t B cl' p c m ec G v8 v9 v10 σ' μ') ∨ (∃ p', p' ≤ t ∧ t ≤ 120 ∧ r' = nI p' ∧ f_X12_mill_161 μ' = some ((-10 : Int32) - nI p', μ'))) := by
  have hF : 20 < FU := by decide
  have m40 := mo40 M
  have m48 : 48 ≤ mo M := by unfold mo; omega
  obtain ⟨σ6, k1, k2, k3, k4, k5, k6, k7, k8⟩ := clear_ (mo M) (sI (sI (sI σ 40 0 (nI 3)) 40 1 (nI (mo M))) 40 2 0)
  have e1 : f_X6_read (mo M) σ = bd (f_X6_readClause σ6) fun r_8 σ_9 => fx3 (f_X6_read_30 (mo M)) FU r_8 (nI 1) σ_9 := by
    unfold f_X6_read
    generalize hK : (fun (r_8 : Int32) (σ_9 : Mem) => fx3 (f_X6_read_30 (mo M)) FU r_8 (1 : Int32) σ_9) = K
    have hK' : (fun (r_8 : Int32) (σ_9 : Mem) => fx3 (f_X6_read_30 (mo M)) FU r_8 (nI 1) σ_9) = K := hK
    rw [hK', lt_eq, lt_eq, lt_eq, gI_sk _ _ _ (by omega), gI_ss, im_mo hM, gd_true, tn_mo hM, k1, bv_some]
  have e2 : f_X12_mill μ = bv (f_X12_clauseHere (sI (sI (sI (sI (sI (sI (sI (sI (sI (sI μ 0 4 (nI M)) 0 6 (nI t)) 1 4 0) 1 (131 + M) 0) 1 (136 + M) 99) 1 (141 + M) 99) 1 (146 + M) 0) 0 5 0) 0 7 0) 0 8 0)) fun τ => fx2 f_X12_mill_119 FU (nI 1) τ := by
    unfold f_X12_mill
    generalize hK : (fun (σ_17 : Mem) => fx2 f_X12_mill_119 FU (1 : Int32) σ_17) = K
    have hK' : (fun (σ_17 : Mem) => fx2 f_X12_mill_119 FU (nI 1) σ_17) = K := hK
    have h5 : ¬ nI M = (5 : Int32) := by rw [show (5 : Int32) = nI 5 from rfl, nIeq (by omega) (by omega)]; omega
    rw [hK', h10, if_neg h5]
    simp (disch := omega) only [lt_eq, bd_some, bv_some, li, pk_mul, nI_add, nIsub, nIlt, nIle, nIeq, nIdiv, nIrem, neg_, pos_, ib_nI, gd_true, nI_tn, gI_ss, gI_sk, gI_sc, ↓reduceIte, nIn1b, c14]
  have lo : ∀ r, r ≠ 40 → r < mo M → gI σ6 r = gI σ r := fun r h1 h2 => by
    rw [k2 r (by omega) (by omega), gIr _ _ _ h1, gIr _ _ _ h1, gIr _ _ _ h1]
  have hi : ∀ r, mo M + 7 ≤ r → gI σ6 r = gI σ r := fun r h2 => by
    rw [k2 r (by omega) (by omega), gIr _ _ _ (by omega), gIr _ _ _ (by omega), gIr _ _ _ (by omega)]
  have t40 : gI σ6 40 = gI (sI (sI (sI σ 40 0 (nI 3)) 40 1 (nI (mo M))) 40 2 0) 40 := k2 40 (by omega) (by omega)
  generalize hμ : sI (sI (sI (sI (sI (sI (sI (sI (sI (sI μ 0 4 (nI M)) 0 6 (nI t)) 1 4 0) 1 (131 + M) 0) 1 (136 + M) 99) 1 (141 + M) 99) 1 (146 + M) 0) 0 5 0) 0 7 0) 0 8 0 = μa at e2
  have S0 : CLS M t B 0 0 0 0 0 (fun _ _ => 0) 0 99 99 σ6 μa := by
    refine ⟨⟨⟨by rw [lo 3 (by omega) (by omega)]; exact c31, fun j hj => by rw [lo 4 (by omega) (by omega)]; exact hc j hj, by rw [t40]; simp (disch := omega) only [gI_ss, gI_sk, gI_sc], ht, hB⟩, by rw [t40]; simp (disch := omega) only [gI_ss, gI_sk, gI_sc], by rw [t40]; simp (disch := omega) only [gI_ss, gI_sk, gI_sc]; rfl, k4, ⟨by rw [← hμ]; simp (disch := omega) only [gI_ss, gI_sk, gI_sc], fun j hj => by rw [← hμ]; simp (disch := omega) only [gI_ss, gI_sk, gI_sc]; exact hm j hj, ht, hB⟩, by rw [← hμ]; simp (disch := omega) only [gI_ss, gI_sk, gI_sc], by rw [← hμ]; simp (disch := omega) only [gI_ss, gI_sk, gI_sc]; rfl, by rw [← hμ]; simp (disch := omega) only [gI_ss, gI_sk, gI_sc], by rw [← hμ]; simp (disch := omega) only [gI_ss, gI_sk, gI_sc]; rfl, by rw [← hμ]; simp (disch := omega) only [gI_ss, gI_sk, gI_sc]; rfl, by omega, by omega, by omega, hM, by omega, by omega⟩, k3, fun _ => rfl, fun h => by omega, by omega, CT_0 _ _, MT_0 _ _, fun _ _ => Nat.zero_le _, ⟨by omega, by omega, by omega⟩, ⟨k5, k6, k7⟩, ?_, ?_, ?_⟩
    · rw [← hμ]; simp (disch := omega) only [gI_ss, gI_sk, gI_sc]; rfl
    · rw [← hμ]; simp (disch := omega) only [gI_ss, gI_sk, gI_sc]; rfl
    · rw [← hμ]; simp (disch := omega) only [gI_ss, gI_sk, gI_sc]; rfl
  obtain ⟨r1, σ1, μ1, b1, b2, b3⟩ := J_clause (by omega) S0
  obtain ⟨b4, b5, b6⟩ := Out_CR ht b3
  obtain ⟨r', σ', μ', d1, d2, d3, d4, d5⟩ := J_loop 9 1 FU FU r1 σ1 μ1 (by omega) (by omega) (by omega) b6
  have f1 := F2c_trans b4 d3
  have f2 := F2m_trans b5 d4
  refine ⟨r', σ', μ', by rw [e1, b1, bd_some]; exact d1, by rw [e2, b2, bv_some]; exact d2, fun r h1 h2 => ?_, fun j hj => ?_, fun r h1 h2 => ?_, fun j h1 h2 h3 h4 h5 => ?_, fun j h1 h2 h3 h4 h5 h6 => ?_, ?_, ?_, d5⟩
  · rw [f1.1 r h1 (by omega)]
    rcases h2 with h2 | h2
    · exact lo r h1 h2
    · exact hi r h2
  · rw [f1.1 _ (by omega) (by omega)]
    exact k8 j hj
  · rw [f2.1 r h1 h2, ← hμ]
    simp (disch := omega) only [gIr, gIrL]
  · rw [f2.2.1 j h2 h4 h5, ← hμ]
    simp (disch := omega) only [gI_ss, gI_sk, gI_sc]
  · rw [f2.2.2 j h2 h3 h4 h5 h6, ← hμ]
    simp (disch := omega) only [gI_ss, gI_sk, gI_sc]
  · rw [f2.2.2 4 (by omega) (by omega) (by omega) (by omega) (by omega), ← hμ]
    simp (disch := omega) only [gI_ss, gI_sk, gI_sc]
  · rw [f2.2.1 4 (by omega) (by omega) (by omega), ← hμ]
    simp (disch := omega) only [gI_ss, gI_sk, gI_sc]
theorem hP_l2 {w st h d : Nat} (h1 : w < 6) (h2 : st < 8) (h3 : h < 10) (h4 : d < 10) : hP w st h d < 4800 := by
  unfold hP
  omega
theorem op_mill (n : Nat) (σ μ : Mem) (hR : Rel (n + 1) σ μ) : ∃ (r : Int32) (σ1 μ1 : Mem), f_X11_mill σ = some (r, σ1) ∧ f_X12_mill μ = some (r, μ1) ∧ Rel n σ1 μ1 := by
  have hi := rel_idle n σ μ hR
  obtain ⟨hn, Am, M, hA, hH, hQ, hp, hm, ha⟩ := hR
  obtain ⟨g1, g2, g3, g4, -⟩ := id hA
  have g2 : gI σ 2 0 = nI M := g2
  by_cases hM : M = 5
  · subst hM
    refine ⟨-4, σ, μ, ?_, ?_, hi⟩
    · unfold f_X11_mill
      rw [g2, if_neg (by decide)]
    · unfold f_X12_mill
      rw [g3, if_pos (by decide)]
  obtain ⟨t1, ⟨t, t2, t3, t4⟩, t5⟩ := g4
  have t1 : gI σ 3 1 = gI μ 1 4 := t1
  have hM5 : M < 5 := by omega
  have hb : ∀ j, j < t → ∃ b, b ≤ 255 ∧ gI μ 1 (11 + j) = nI b := fun j hj => (t4 j hj).2
  have hBv : ∀ j, j < t → (gI μ 1 (11 + j)).toNatClampNeg ≤ 255 ∧ gI μ 1 (11 + j) = nI ((gI μ 1 (11 + j)).toNatClampNeg) := fun j hj => by
    obtain ⟨b, b1, b2⟩ := hb j hj
    rw [b2, nI_tn (by omega)]
    exact ⟨b1, rfl⟩
  obtain ⟨r', σ', μ', e1, e2, fc, fz, fm, fm0, fm1, m4, m04, e3⟩ := J_read (t := t) (B := fun j => (gI μ 1 (11 + j)).toNatClampNeg) hM5 g2 g3 (t1.trans t3) t3 t2 (fun j hj => (hBv j hj).1) (fun j hj => ((t4 j hj).1).trans (hBv j hj).2) (fun j hj => (hBv j hj).2)
  have m48 : 48 ≤ mo M := by unfold mo; omega
  have c20 : gI σ' 2 0 = nI M := by rw [fc 2 (by omega) (by omega)]; exact g2
  have m10 : gI μ' 1 0 = nI M := by rw [fm1 0 (by omega) (by omega) (by omega) (by omega) (by omega) (by omega)]; exact g3
  have hlt : nI M < (5 : Int32) := by rw [show (5 : Int32) = nI 5 from rfl, nIlt (by omega) (by omega)]; exact hM5
  have c1 : f_X11_mill σ = if r' < 0 then some ((gI (sI (sI σ' 3 1 0) 2 0 (nI (M + 1))) 2 0) - (1 : Int32), sI (sI σ' 3 1 0) 2 0 (nI (M + 1))) else some ((-10 : Int32) - r', sI σ' 3 1 0) := by
    have e20 : gI (sI σ' 3 1 0) 2 0 = nI M := by
      rw [gI_sc _ _ _ _ (by omega)]
      exact c20
    unfold f_X11_mill
    rw [g2, if_pos hlt, ib_nI hM5 (by omega), gd_true, nI_tn (by omega), e1, bd_some, lt_eq, lt_eq, e20, nI_1]
  rw [c1, e2]
  rcases e3 with ⟨rfl, q7, q5, cl', p, c, m, ec, G, v8, v9, v10, hS⟩ | ⟨p', p1, p2, rfl, p4⟩
  · rw [if_pos (by decide), gI_ss, show nI (M + 1) - (1 : Int32) = nI M from by rw [show (1 : Int32) = nI 1 from rfl, nIsub (by omega)]; rfl]
    have c2 : f_X12_mill_161 μ' = some (nI M, sI μ' 1 0 (nI (M + 1))) := by
      unfold f_X12_mill_161
      rw [if_pos q7, if_pos q5, lt_eq, m10, nI_1, gI_sc _ _ _ _ (by omega), m04]
    refine ⟨nI M, _, _, rfl, c2, ?_⟩
    obtain ⟨z, s6, s0, s3, sec, sCT, sMT, sG, V1, ⟨V2, V3, V4⟩, V5, V6, V7⟩ := id hS
    obtain ⟨z1, z2, z3, z4, z5, z6, z7, z8, z9, z10, z11, z12, z13, z14, z15, z16⟩ := id z
    have hi' : ∀ r, 48 ≤ r → gI (sI (sI σ' 3 1 0) 2 0 (nI (M + 1))) r = gI σ' r := fun r hr => by
      rw [gIr _ _ _ (by omega), gIr _ _ _ (by omega)]
    have ms : ∀ j, 0 < j → gI (sI μ' 1 0 (nI (M + 1))) 1 j = gI μ' 1 j := fun j hj => gI_sk _ _ _ (by omega)
    refine mill_end (M' := M + 1) (Am' := fun j => if j = M then (G, v8, v9, v10) else Am j) hn hA hH hQ hp hm ha hM5 (Or.inr rfl) (fun r h1 h2 h3 h4 => ?_) (gI_ss _ _ _ _) ?_ (fun r h1 h2 => ?_) (fun j h1 h2 h3 h4 h5 => ?_) (fun j h0 h1 h2 h3 h4 h5 h6 => ?_) (gI_ss _ _ _ _) ?_ (fun j hj => if_neg (by omega)) (fun _ => ?_)
    · rw [gIr _ _ _ h1, gIr _ _ _ h2]
      exact fc r h3 h4
    · rw [gI_sc _ _ _ _ (by omega), gI_ss]
    · rw [gIr _ _ _ h2]
      exact fm r h1 h2
    · rw [gI_sc _ _ _ _ (by omega)]
      exact fm0 j h1 h2 h3 h4 h5
    · rw [ms j (by omega)]
      exact fm1 j h1 h2 h3 h4 h5 h6
    · rw [ms 4 (by omega)]
      exact m4
    · rw [if_pos rfl]
      refine ⟨⟨fun kd sg => ?_, V1.1, V1.2.1, V1.2.2, by rw [hi' _ m48]; exact V2, by rw [hi' _ m48]; exact V3, by rw [hi' _ m48]; exact V4, by rw [ms _ (by omega)]; exact V5, by rw [ms _ (by omega)]; exact V6, by rw [ms _ (by omega)]; exact V7, ?_, ?_⟩, fun w st h d w1 w2 w3 w4 => Or.inl ?_⟩
      · have := sG kd sg
        show G kd sg ≤ 990
        omega
      · exact CT_gives (CT_c sCT (fun i _ _ j _ => by rw [hi' _ (by omega)]) (fun j _ => by rw [hi' _ (by omega)])) (by omega) (by rw [hi' _ m48]; exact s6)
      · exact MT_gives (MT_m sMT (fun j _ _ => ms j (by omega))) hM5 (by omega) (by rw [ms _ (by omega)]; exact z10)
      · rw [hi' _ (by omega)]
        exact fz _ (hP_l2 w1 w2 w3 w4)
  · rw [if_neg (by rw [show (0 : Int32) = nI 0 from rfl, nIlt (by omega) (by omega)]; omega), p4]
    refine ⟨_, _, _, rfl, rfl, ?_⟩
    refine mill_end (M' := M) (Am' := Am) hn hA hH hQ hp hm ha hM5 (Or.inl rfl) (fun r h1 h2 h3 h4 => ?_) ?_ (gI_ss _ _ _ _) fm fm0 (fun j h0 h1 h2 h3 h4 h5 h6 => fm1 j h1 h2 h3 h4 h5 h6) m10 m4 (fun _ _ => rfl) (fun h => by omega)
    · rw [gIr _ _ _ h2]
      exact fc r h3 h4
    · rw [gI_sc _ _ _ _ (by omega)]
      exact c20
