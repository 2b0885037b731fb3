/-! A CLAUSE of cool, edge, burn; ANY CLAUSE -/
section CLD
variable {k t : Nat} {B : Nat → Nat}
theorem J_tells4 {cl p c m ec v8 v9 v10 : Nat} {G : Nat → (Nat → Int32) → Nat} (hcl : cl < 10) {σ μ : Mem} (hS : CLS k t B cl p c m ec G v8 v9 v10 σ μ) : ∃ r σ' μ', fx3 f_X6_readClause_15 FU (nI 4) (nI 0) σ = some (r, σ') ∧ f_X12_tells 8 (nI 131) μ = some μ' ∧ CR k t B cl p r σ μ σ' μ' := by
  obtain ⟨hP, s6, s0, s3, sec, sCT, sMT, sG, V1, ⟨V2, V3, V4⟩, V5, V6, V7⟩ := id hS
  obtain ⟨v, σ1, μ0, μ1, a1, a2, a3, a4, a5⟩ := J_num (kd := 4) (by omega) hP
  unfold f_X12_tells
  rw [a1, bv_some, a2, bd_some]
  rcases a5 with ⟨n, e, b1, b2, b3, b4, b5⟩ | ⟨b1, p', b2, b3, b4, b5⟩
  · rw [b5, b2]
    obtain ⟨z1, z2, z3, z4, z5, z6, z7, z8, z9, z10, z11, z12, z13, z14, z15, z16⟩ := id b4
    unfold f_X6_readClause_62
    rw [if_pos (nI_pos' (by omega)), if_pos (by decide), c_93 z14 z2]
    unfold f_X3_appendClause
    rw [if_pos (by decide), lt_eq, bv_some, if_pos z8, z6, nI_add, ib_nI (by omega) (by omega), gd_true, nI_tn (by omega), lt_eq]
    have r0 : ∀ j, gI σ1 (mo k) j = gI σ (mo k) j := fun j => by rw [a3.1 _ (mo40 k)]
    have hc : ∀ j, j ≠ 8 → gI (sI σ1 (mo k) 8 (nI n)) (mo k) j = gI σ (mo k) j := fun j u => by rw [gI_sk _ _ _ u, r0]
    have hm : ∀ j, j ≠ 131 + k → gI (sI μ1 1 (131 + k) (nI n)) 1 j = gI μ 1 j := fun j u => by rw [gI_sk _ _ _ u, a4.1 1 (by omega)]
    have h40 : ∀ j, gI (sI σ1 (mo k) 8 (nI n)) 40 j = gI σ1 40 j := fun j => gI_sc _ _ _ _ (Ne.symm (mo40 k))
    refine ⟨1, _, _, rfl, rfl, ?_, ?_, Or.inl ⟨rfl, e, c, m, ec, G, n, v9, v10, b3, ?_⟩⟩
    · exact F2c_trans (F2c_o a3) ⟨fun r u v => by simp (disch := omega) only [gIr, gIrL], fun j _ => h40 j⟩
    · exact F2m_trans (F2m_o a4) ⟨fun r u v => gIr _ _ _ v, fun j _ _ _ => gI_sc _ _ _ _ (by omega), fun j u1 u2 u3 _ _ => gI_sk _ _ _ (by omega)⟩
    · refine ⟨?_, by rw [hc 6 (by omega)]; exact s6, s0, fun h => by rw [gI_sc _ _ _ _ (by omega), a3.1 _ (by unfold mo; omega)]; exact s3 h, by omega, ?_, ?_, sG, ⟨b1, V1.2.1, V1.2.2⟩, ⟨gI_ss _ _ _ _, by rw [hc 9 (by omega)]; exact V3, by rw [hc 10 (by omega)]; exact V4⟩, gI_ss _ _ _ _, by rw [hm (136 + k) (by omega)]; exact V6, by rw [hm (141 + k) (by omega)]; exact V7⟩
      · obtain ⟨y1, y2, y3, y4⟩ := z1
        have hlo : ∀ r, r < 48 → ∀ j, gI (sI σ1 (mo k) 8 (nI n)) r j = gI σ1 r j := fun r hr j => gI_sc _ _ _ _ (by unfold mo; omega)
        refine ⟨⟨by rw [hlo 3 (by omega)]; exact y1, fun j hj => by rw [hlo 4 (by omega)]; exact y2 j hj, by rw [h40]; exact y3, y4⟩, by rw [h40]; exact z2, by rw [h40]; exact z3, by rw [gI_sk _ _ _ (by omega)]; exact z4, ?_, by rw [gI_sc _ _ _ _ (by omega)]; exact z6, by rw [gI_sc _ _ _ _ (by omega)]; exact z7, by rw [gI_sc _ _ _ _ (by omega)]; exact z8, by rw [gI_sc _ _ _ _ (by omega)]; exact z9, by rw [gI_sk _ _ _ (by omega)]; exact z10, z11, z12, by omega, z14, by omega, z16⟩
        exact ⟨by rw [gI_sc _ _ _ _ (by omega)]; exact z5.1, fun j hj => by rw [gI_sk _ _ _ (by have := z5.2.2.1; omega)]; exact z5.2.1 j hj, z5.2.2⟩
      · exact CT_c sCT (fun i u v j _ => by rw [gI_sc _ _ _ _ (by omega), a3.1 _ (by unfold mo; omega)]) (fun j _ => by rw [gI_sc _ _ _ _ (by omega), a3.1 _ (by unfold mo; omega)])
      · exact MT_m sMT (fun j u v => hm j (by omega))
  · rw [if_neg (by rw [b5]; decide)]
    exact ⟨0, σ1, μ1, b1, rfl, F2c_o a3, F2m_o a4, Or.inr ⟨rfl, p', b2, b3, b4, b5⟩⟩
theorem J_tells5 {cl p c m ec v8 v9 v10 : Nat} {G : Nat → (Nat → Int32) → Nat} (hcl : cl < 10) {σ μ : Mem} (hS : CLS k t B cl p c m ec G v8 v9 v10 σ μ) : ∃ r σ' μ', fx3 f_X6_readClause_15 FU (nI 5) (nI 0) σ = some (r, σ') ∧ f_X12_tells 9 (nI 136) μ = some μ' ∧ CR k t B cl p r σ μ σ' μ' := by
  obtain ⟨hP, s6, s0, s3, sec, sCT, sMT, sG, V1, ⟨V2, V3, V4⟩, V5, V6, V7⟩ := id hS
  obtain ⟨v, σ1, μ0, μ1, a1, a2, a3, a4, a5⟩ := J_num (kd := 5) (by omega) hP
  unfold f_X12_tells
  rw [a1, bv_some, a2, bd_some]
  rcases a5 with ⟨n, e, b1, b2, b3, b4, b5⟩ | ⟨b1, p', b2, b3, b4, b5⟩
  · rw [b5, b2]
    obtain ⟨z1, z2, z3, z4, z5, z6, z7, z8, z9, z10, z11, z12, z13, z14, z15, z16⟩ := id b4
    unfold f_X6_readClause_62
    rw [if_pos (nI_pos' (by omega)), if_pos (by decide), c_93 z14 z2]
    unfold f_X3_appendClause
    rw [if_neg (by decide), if_pos (by decide), lt_eq, bv_some, if_pos z8, z6, nI_add, ib_nI (by omega) (by omega), gd_true, nI_tn (by omega), lt_eq]
    have r0 : ∀ j, gI σ1 (mo k) j = gI σ (mo k) j := fun j => by rw [a3.1 _ (mo40 k)]
    have hc : ∀ j, j ≠ 9 → gI (sI σ1 (mo k) 9 (nI n)) (mo k) j = gI σ (mo k) j := fun j u => by rw [gI_sk _ _ _ u, r0]
    have hm : ∀ j, j ≠ 136 + k → gI (sI μ1 1 (136 + k) (nI n)) 1 j = gI μ 1 j := fun j u => by rw [gI_sk _ _ _ u, a4.1 1 (by omega)]
    have h40 : ∀ j, gI (sI σ1 (mo k) 9 (nI n)) 40 j = gI σ1 40 j := fun j => gI_sc _ _ _ _ (Ne.symm (mo40 k))
    refine ⟨1, _, _, rfl, rfl, ?_, ?_, Or.inl ⟨rfl, e, c, m, ec, G, v8, n, v10, b3, ?_⟩⟩
    · exact F2c_trans (F2c_o a3) ⟨fun r u v => by simp (disch := omega) only [gIr, gIrL], fun j _ => h40 j⟩
    · exact F2m_trans (F2m_o a4) ⟨fun r u v => gIr _ _ _ v, fun j _ _ _ => gI_sc _ _ _ _ (by omega), fun j u1 u2 u3 _ _ => gI_sk _ _ _ (by omega)⟩
    · refine ⟨?_, by rw [hc 6 (by omega)]; exact s6, s0, fun h => by rw [gI_sc _ _ _ _ (by omega), a3.1 _ (by unfold mo; omega)]; exact s3 h, by omega, ?_, ?_, sG, ⟨V1.1, b1, V1.2.2⟩, ⟨by rw [hc 8 (by omega)]; exact V2, gI_ss _ _ _ _, by rw [hc 10 (by omega)]; exact V4⟩, by rw [hm (131 + k) (by omega)]; exact V5, gI_ss _ _ _ _, by rw [hm (141 + k) (by omega)]; exact V7⟩
      · obtain ⟨y1, y2, y3, y4⟩ := z1
        have hlo : ∀ r, r < 48 → ∀ j, gI (sI σ1 (mo k) 9 (nI n)) r j = gI σ1 r j := fun r hr j => gI_sc _ _ _ _ (by unfold mo; omega)
        refine ⟨⟨by rw [hlo 3 (by omega)]; exact y1, fun j hj => by rw [hlo 4 (by omega)]; exact y2 j hj, by rw [h40]; exact y3, y4⟩, by rw [h40]; exact z2, by rw [h40]; exact z3, by rw [gI_sk _ _ _ (by omega)]; exact z4, ?_, by rw [gI_sc _ _ _ _ (by omega)]; exact z6, by rw [gI_sc _ _ _ _ (by omega)]; exact z7, by rw [gI_sc _ _ _ _ (by omega)]; exact z8, by rw [gI_sc _ _ _ _ (by omega)]; exact z9, by rw [gI_sk _ _ _ (by omega)]; exact z10, z11, z12, by omega, z14, by omega, z16⟩
        exact ⟨by rw [gI_sc _ _ _ _ (by omega)]; exact z5.1, fun j hj => by rw [gI_sk _ _ _ (by have := z5.2.2.1; omega)]; exact z5.2.1 j hj, z5.2.2⟩
      · exact CT_c sCT (fun i u v j _ => by rw [gI_sc _ _ _ _ (by omega), a3.1 _ (by unfold mo; omega)]) (fun j _ => by rw [gI_sc _ _ _ _ (by omega), a3.1 _ (by unfold mo; omega)])
      · exact MT_m sMT (fun j u v => hm j (by omega))
  · rw [if_neg (by rw [b5]; decide)]
    exact ⟨0, σ1, μ1, b1, rfl, F2c_o a3, F2m_o a4, Or.inr ⟨rfl, p', b2, b3, b4, b5⟩⟩
theorem J_tells6 {cl p c m ec v8 v9 v10 : Nat} {G : Nat → (Nat → Int32) → Nat} (hcl : cl < 10) {σ μ : Mem} (hS : CLS k t B cl p c m ec G v8 v9 v10 σ μ) : ∃ r σ' μ', fx3 f_X6_readClause_15 FU (nI 6) (nI 0) σ = some (r, σ') ∧ f_X12_tells 10 (nI 141) μ = some μ' ∧ CR k t B cl p r σ μ σ' μ' := by
  obtain ⟨hP, s6, s0, s3, sec, sCT, sMT, sG, V1, ⟨V2, V3, V4⟩, V5, V6, V7⟩ := id hS
  obtain ⟨v, σ1, μ0, μ1, a1, a2, a3, a4, a5⟩ := J_num (kd := 6) (by omega) hP
  unfold f_X12_tells
  rw [a1, bv_some, a2, bd_some]
  rcases a5 with ⟨n, e, b1, b2, b3, b4, b5⟩ | ⟨b1, p', b2, b3, b4, b5⟩
  · rw [b5, b2]
    obtain ⟨z1, z2, z3, z4, z5, z6, z7, z8, z9, z10, z11, z12, z13, z14, z15, z16⟩ := id b4
    unfold f_X6_readClause_62
    rw [if_pos (nI_pos' (by omega)), if_pos (by decide), c_93 z14 z2]
    unfold f_X3_appendClause
    rw [if_neg (by decide), if_neg (by decide), if_neg (by decide), lt_eq, bv_some, if_pos z8, z6, nI_add, ib_nI (by omega) (by omega), gd_true, nI_tn (by omega), lt_eq]
    have r0 : ∀ j, gI σ1 (mo k) j = gI σ (mo k) j := fun j => by rw [a3.1 _ (mo40 k)]
    have hc : ∀ j, j ≠ 10 → gI (sI σ1 (mo k) 10 (nI n)) (mo k) j = gI σ (mo k) j := fun j u => by rw [gI_sk _ _ _ u, r0]
    have hm : ∀ j, j ≠ 141 + k → gI (sI μ1 1 (141 + k) (nI n)) 1 j = gI μ 1 j := fun j u => by rw [gI_sk _ _ _ u, a4.1 1 (by omega)]
    have h40 : ∀ j, gI (sI σ1 (mo k) 10 (nI n)) 40 j = gI σ1 40 j := fun j => gI_sc _ _ _ _ (Ne.symm (mo40 k))
    refine ⟨1, _, _, rfl, rfl, ?_, ?_, Or.inl ⟨rfl, e, c, m, ec, G, v8, v9, n, b3, ?_⟩⟩
    · exact F2c_trans (F2c_o a3) ⟨fun r u v => by simp (disch := omega) only [gIr, gIrL], fun j _ => h40 j⟩
    · exact F2m_trans (F2m_o a4) ⟨fun r u v => gIr _ _ _ v, fun j _ _ _ => gI_sc _ _ _ _ (by omega), fun j u1 u2 u3 _ _ => gI_sk _ _ _ (by omega)⟩
    · refine ⟨?_, by rw [hc 6 (by omega)]; exact s6, s0, fun h => by rw [gI_sc _ _ _ _ (by omega), a3.1 _ (by unfold mo; omega)]; exact s3 h, by omega, ?_, ?_, sG, ⟨V1.1, V1.2.1, b1⟩, ⟨by rw [hc 8 (by omega)]; exact V2, by rw [hc 9 (by omega)]; exact V3, gI_ss _ _ _ _⟩, by rw [hm (131 + k) (by omega)]; exact V5, by rw [hm (136 + k) (by omega)]; exact V6, gI_ss _ _ _ _⟩
      · obtain ⟨y1, y2, y3, y4⟩ := z1
        have hlo : ∀ r, r < 48 → ∀ j, gI (sI σ1 (mo k) 10 (nI n)) r j = gI σ1 r j := fun r hr j => gI_sc _ _ _ _ (by unfold mo; omega)
        refine ⟨⟨by rw [hlo 3 (by omega)]; exact y1, fun j hj => by rw [hlo 4 (by omega)]; exact y2 j hj, by rw [h40]; exact y3, y4⟩, by rw [h40]; exact z2, by rw [h40]; exact z3, by rw [gI_sk _ _ _ (by omega)]; exact z4, ?_, by rw [gI_sc _ _ _ _ (by omega)]; exact z6, by rw [gI_sc _ _ _ _ (by omega)]; exact z7, by rw [gI_sc _ _ _ _ (by omega)]; exact z8, by rw [gI_sc _ _ _ _ (by omega)]; exact z9, by rw [gI_sk _ _ _ (by omega)]; exact z10, z11, z12, by omega, z14, by omega, z16⟩
        exact ⟨by rw [gI_sc _ _ _ _ (by omega)]; exact z5.1, fun j hj => by rw [gI_sk _ _ _ (by have := z5.2.2.1; omega)]; exact z5.2.1 j hj, z5.2.2⟩
      · exact CT_c sCT (fun i u v j _ => by rw [gI_sc _ _ _ _ (by omega), a3.1 _ (by unfold mo; omega)]) (fun j _ => by rw [gI_sc _ _ _ _ (by omega), a3.1 _ (by unfold mo; omega)])
      · exact MT_m sMT (fun j u v => hm j (by omega))
  · rw [if_neg (by rw [b5]; decide)]
    exact ⟨0, σ1, μ1, b1, rfl, F2c_o a3, F2m_o a4, Or.inr ⟨rfl, p', b2, b3, b4, b5⟩⟩
theorem here_102 {μ : Mem} (h : f_X12_here μ = some ((102 : Int32), μ)) : f_X12_clauseHere μ = f_X12_much 4 (0 : Int32) μ := by
  unfold f_X12_clauseHere
  rw [h, bd_some, if_neg (by decide), if_neg (by decide), if_neg (by decide), if_neg (by decide), if_pos rfl]
  cases f_X12_much 4 (0 : Int32) μ with
  | none => rfl
  | some _ => rfl
theorem here_109 {μ : Mem} (h : f_X12_here μ = some ((109 : Int32), μ)) : f_X12_clauseHere μ = f_X12_much 5 (1 : Int32) μ := by
  unfold f_X12_clauseHere
  rw [h, bd_some, if_neg (by decide), if_neg (by decide), if_neg (by decide), if_neg (by decide), if_neg (by decide), if_neg (by decide), if_neg (by decide), if_neg (by decide), if_neg (by decide), if_neg (by decide), if_neg (by decide), if_pos rfl]
  cases f_X12_much 5 (1 : Int32) μ with
  | none => rfl
  | some _ => rfl
theorem here_104 {μ : Mem} (h : f_X12_here μ = some ((104 : Int32), μ)) : f_X12_clauseHere μ = f_X12_much 6 (2 : Int32) μ := by
  unfold f_X12_clauseHere
  rw [h, bd_some, if_neg (by decide), if_neg (by decide), if_neg (by decide), if_neg (by decide), if_neg (by decide), if_neg (by decide), if_pos rfl]
  cases f_X12_much 6 (2 : Int32) μ with
  | none => rfl
  | some _ => rfl
theorem here_119 {μ : Mem} (h : f_X12_here μ = some ((119 : Int32), μ)) : f_X12_clauseHere μ = f_X12_much 7 (3 : Int32) μ := by
  unfold f_X12_clauseHere
  rw [h, bd_some, if_neg (by decide), if_neg (by decide), if_neg (by decide), if_neg (by decide), if_neg (by decide), if_neg (by decide), if_neg (by decide), if_neg (by decide), if_neg (by decide), if_neg (by decide), if_neg (by decide), if_neg (by decide), if_neg (by decide), if_neg (by decide), if_neg (by decide), if_neg (by decide), if_neg (by decide), if_neg (by decide), if_neg (by decide), if_neg (by decide), if_neg (by decide), if_pos rfl]
  cases f_X12_much 7 (3 : Int32) μ with
  | none => rfl
  | some _ => rfl
theorem here_99 {μ : Mem} (h : f_X12_here μ = some ((99 : Int32), μ)) : f_X12_clauseHere μ = f_X12_tells 8 (131 : Int32) μ := by
  unfold f_X12_clauseHere
  rw [h, bd_some, if_neg (by decide), if_pos rfl]
  cases f_X12_tells 8 (131 : Int32) μ with
  | none => rfl
  | some _ => rfl
theorem here_101 {μ : Mem} (h : f_X12_here μ = some ((101 : Int32), μ)) : f_X12_clauseHere μ = f_X12_tells 9 (136 : Int32) μ := by
  unfold f_X12_clauseHere
  rw [h, bd_some, if_neg (by decide), if_neg (by decide), if_neg (by decide), if_pos rfl]
  cases f_X12_tells 9 (136 : Int32) μ with
  | none => rfl
  | some _ => rfl
theorem here_98 {μ : Mem} (h : f_X12_here μ = some ((98 : Int32), μ)) : f_X12_clauseHere μ = f_X12_tells 10 (141 : Int32) μ := by
  unfold f_X12_clauseHere
  rw [h, bd_some, if_pos rfl]
  cases f_X12_tells 10 (141 : Int32) μ with
  | none => rfl
  | some _ => rfl
theorem here_no {v : Int32} {μ : Mem} (h : f_X12_here μ = some (v, μ)) (hv : ∀ i, i < 7 → ¬ v = nI (L0 i)) : f_X12_clauseHere μ = some (sI μ 0 7 1) := by
  have h102 : ¬ v = (102 : Int32) := hv 0 (by omega)
  have h109 : ¬ v = (109 : Int32) := hv 1 (by omega)
  have h104 : ¬ v = (104 : Int32) := hv 2 (by omega)
  have h119 : ¬ v = (119 : Int32) := hv 3 (by omega)
  have h99 : ¬ v = (99 : Int32) := hv 4 (by omega)
  have h101 : ¬ v = (101 : Int32) := hv 5 (by omega)
  have h98 : ¬ v = (98 : Int32) := hv 6 (by omega)
  unfold f_X12_clauseHere
  rw [h, bd_some]
  rw [if_neg h98]
  rw [if_neg h99]
  by_cases q100 : v = (100 : Int32)
  · rw [if_pos q100, lt_eq]
  rw [if_neg q100]
  rw [if_neg h101]
  rw [if_neg h102]
  by_cases q103 : v = (103 : Int32)
  · rw [if_pos q103, lt_eq]
  rw [if_neg q103]
  rw [if_neg h104]
  by_cases q105 : v = (105 : Int32)
  · rw [if_pos q105, lt_eq]
  rw [if_neg q105]
  by_cases q106 : v = (106 : Int32)
  · rw [if_pos q106, lt_eq]
  rw [if_neg q106]
  by_cases q107 : v = (107 : Int32)
  · rw [if_pos q107, lt_eq]
  rw [if_neg q107]
  by_cases q108 : v = (108 : Int32)
  · rw [if_pos q108, lt_eq]
  rw [if_neg q108]
  rw [if_neg h109]
  by_cases q110 : v = (110 : Int32)
  · rw [if_pos q110, lt_eq]
  rw [if_neg q110]
  by_cases q111 : v = (111 : Int32)
  · rw [if_pos q111, lt_eq]
  rw [if_neg q111]
  by_cases q112 : v = (112 : Int32)
  · rw [if_pos q112, lt_eq]
  rw [if_neg q112]
  by_cases q113 : v = (113 : Int32)
  · rw [if_pos q113, lt_eq]
  rw [if_neg q113]
  by_cases q114 : v = (114 : Int32)
  · rw [if_pos q114, lt_eq]
  rw [if_neg q114]
  by_cases q115 : v = (115 : Int32)
  · rw [if_pos q115, lt_eq]
  rw [if_neg q115]
  by_cases q116 : v = (116 : Int32)
  · rw [if_pos q116, lt_eq]
  rw [if_neg q116]
  by_cases q117 : v = (117 : Int32)
  · rw [if_pos q117, lt_eq]
  rw [if_neg q117]
  by_cases q118 : v = (118 : Int32)
  · rw [if_pos q118, lt_eq]
  rw [if_neg q118]
  rw [if_neg h119]
  rw [lt_eq]
theorem J_clause {cl p c m ec v8 v9 v10 : Nat} {G : Nat → (Nat → Int32) → Nat} (hcl : cl < 10) {σ μ : Mem} (hS : CLS k t B cl p c m ec G v8 v9 v10 σ μ) : ∃ r σ' μ', f_X6_readClause σ = some (r, σ') ∧ f_X12_clauseHere μ = some μ' ∧ CR k t B cl p r σ μ σ' μ' := by
  obtain ⟨z1, z2, z3, z4, z5, z6, z7, z8, z9, z10, z11, z12, z13, z14, z15, z16⟩ := id hS.1
  have t120 := z1.2.2.2.1
  have hB := z1.2.2.2.2
  have hM := m_here z5 z7 (by omega)
  rcases c_placeIn lw0 z1 z3 (by omega) with ⟨i, i1, i2, i3, -, i5⟩ | ⟨i1, i2⟩
  · have e : f_X6_readClause σ = fx3 f_X6_readClause_15 FU (nI i) (nI 0) σ := by
      unfold f_X6_readClause
      rw [i5, bd_some, if_pos (nI_pos' (by omega))]
      rfl
    rw [e]
    have hv : at_ t B p = nI (L0 i) := (at_eq hB (by have := (lw0.2.2.2 i i1).2; omega)).mpr ⟨i2, i3⟩
    rw [hv] at hM
    rcases (show i = 0 ∨ i = 1 ∨ i = 2 ∨ i = 3 ∨ i = 4 ∨ i = 5 ∨ i = 6 by omega) with rfl | rfl | rfl | rfl | rfl | rfl | rfl
    · rw [here_102 hM]
      exact J_much (kd := 0) (by omega) hcl hS
    · rw [here_109 hM]
      exact J_much (kd := 1) (by omega) hcl hS
    · rw [here_104 hM]
      exact J_much (kd := 2) (by omega) hcl hS
    · rw [here_119 hM]
      exact J_much (kd := 3) (by omega) hcl hS
    · rw [here_99 hM]
      exact J_tells4 hcl hS
    · rw [here_101 hM]
      exact J_tells5 hcl hS
    · rw [here_98 hM]
      exact J_tells6 hcl hS
  · have e : f_X6_readClause σ = some (0, σ) := by
      unfold f_X6_readClause
      rw [i2, bd_some, if_neg (by decide)]
    have hn : ∀ i, i < 7 → ¬ at_ t B p = nI (L0 i) := fun i hi h => i1 i hi ((at_eq hB (by have := (lw0.2.2.2 i hi).2; omega)).mp h)
    exact ⟨0, σ, _, e, here_no hM hn, F2c_refl _ _, F2m_o (o0_7 _ _), Or.inr ⟨rfl, p, z11, z3, by rw [gI_sk _ _ _ (by omega)]; exact z7, gI_ss _ _ _ _⟩⟩
end CLD
