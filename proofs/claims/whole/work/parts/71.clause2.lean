/-! A CLAUSE, read on both sides -/
def F2c (k : Nat) (σ σ' : Mem) : Prop := (∀ r, r ≠ 40 → (r < mo k ∨ mo k + 4 < r) → gI σ' r = gI σ r) ∧ ∀ j, j ≠ 2 → gI σ' 40 j = gI σ 40 j
def F2m (k : Nat) (μ μ' : Mem) : Prop := (∀ r, r ≠ 0 → r ≠ 1 → gI μ' r = gI μ r) ∧ (∀ j, j ≠ 5 → j ≠ 7 → j ≠ 8 → gI μ' 0 j = gI μ 0 j) ∧ ∀ j, j ≠ 131 + k → j ≠ 136 + k → j ≠ 141 + k → j ≠ 146 + k → (j < 151 + 140 * k ∨ 291 + 140 * k ≤ j) → gI μ' 1 j = gI μ 1 j
theorem F2c_refl (k : Nat) (σ : Mem) : F2c k σ σ := ⟨fun _ _ _ => rfl, fun _ _ => rfl⟩
theorem F2m_refl (k : Nat) (μ : Mem) : F2m k μ μ := ⟨fun _ _ _ => rfl, fun _ _ _ _ => rfl, fun _ _ _ _ _ _ => rfl⟩
theorem F2c_trans {k : Nat} {σ τ υ : Mem} (h1 : F2c k σ τ) (h2 : F2c k τ υ) : F2c k σ υ := ⟨fun r a b => (h2.1 r a b).trans (h1.1 r a b), fun j a => (h2.2 j a).trans (h1.2 j a)⟩
theorem F2m_trans {k : Nat} {μ τ υ : Mem} (h1 : F2m k μ τ) (h2 : F2m k τ υ) : F2m k μ υ := ⟨fun r a b => (h2.1 r a b).trans (h1.1 r a b), fun j a b c => (h2.2.1 j a b c).trans (h1.2.1 j a b c), fun j a b c d e => (h2.2.2 j a b c d e).trans (h1.2.2 j a b c d e)⟩
theorem F2c_o {k : Nat} {σ τ : Mem} (h : o40 σ τ) : F2c k σ τ := ⟨fun r a _ => h.1 r a, h.2⟩
theorem F2m_o {k : Nat} {μ τ : Mem} (h : o0 μ τ) : F2m k μ τ := ⟨fun r a _ => h.1 r a, fun j a b _ => h.2 j a b, fun j _ _ _ _ _ => by rw [h.1 1 (by omega)]⟩
theorem F2c_F {k c : Nat} {σ τ : Mem} (h : Fc k c σ τ) : F2c k σ τ := ⟨fun r a b => h.1 r a (by omega) (by omega), h.2.1⟩
theorem F2m_F {k m : Nat} {μ τ : Mem} (h : Fm k m μ τ) : F2m k μ τ := ⟨h.1, h.2.1, fun j _ _ _ a b => h.2.2 j a (by omega)⟩
/-- cool, edge, burn -/
def Vals (k v8 v9 v10 : Nat) (σ μ : Mem) : Prop := (v8 ≤ 99 ∧ v9 ≤ 99 ∧ v10 ≤ 99) ∧ (gI σ (mo k) 8 = nI v8 ∧ gI σ (mo k) 9 = nI v9 ∧ gI σ (mo k) 10 = nI v10) ∧ gI μ 1 (131 + k) = nI v8 ∧ gI μ 1 (136 + k) = nI v9 ∧ gI μ 1 (141 + k) = nI v10
/-- after cl clauses -/
def CLS (k t : Nat) (B : Nat → Nat) (cl p c m ec : Nat) (G : Nat → (Nat → Int32) → Nat) (v8 v9 v10 : Nat) (σ μ : Mem) : Prop := PS k t B cl p c m 0 σ μ ∧ gI σ (mo k) 6 = nI ec ∧ (ec = 0 → c = 0) ∧ (0 < ec → gI σ (mo k + 3) (ec - 1) = nI c) ∧ ec ≤ cl ∧ CT k ec c (gI σ) G ∧ MT k m (gI μ 1) G ∧ (∀ kd sg, G kd sg ≤ 99 * ec) ∧ Vals k v8 v9 v10 σ μ
section CLB
variable {k t : Nat} {B : Nat → Nat}
theorem PS_x {x x' p c m q : Nat} {σ μ : Mem} (h : PS k t B x p c m q σ μ) (hx : x ≤ x') (hx2 : x' ≤ 10) : PS k t B x' p c m q σ μ := by
  obtain ⟨z1, z2, z3, z4, z5, z6, z7, z8, z9, z10, z11, z12, z13, z14, z15, z16⟩ := h
  exact ⟨z1, z2, z3, z4, z5, z6, z7, z8, z9, z10, z11, z12, by omega, z14, hx2, z16⟩
/-- the word and the number -/
theorem J_num {x kd p c m : Nat} (hkd : kd < 7) {σ μ : Mem} (hP : PS k t B x p c m 0 σ μ) : ∃ v σ' μ1 μ', f_X12_spells (4 + kd) μ = some μ1 ∧ f_X12_figures μ1 = some (v, μ') ∧ o40 σ σ' ∧ o0 μ μ' ∧ ((∃ n e, n ≤ 99 ∧ v = nI n ∧ p < e ∧ PS k t B x e c m 0 σ' μ' ∧ fx3 f_X6_readClause_15 FU (nI kd) (nI 0) σ = f_X6_readClause_62 (nI kd) (nI n) σ') ∨ (fx3 f_X6_readClause_15 FU (nI kd) (nI 0) σ = some (0, σ') ∧ ∃ p', p' ≤ t ∧ gI σ' 40 2 = nI p' ∧ gI μ' 0 5 = nI p' ∧ gI μ' 0 7 = 1)) := by
  have hF : 10 < FU := by decide
  obtain ⟨σ1, μ1, a1, a2, a3, a4⟩ := J_word hkd 5 0 FU FU p c m σ μ (by omega) (by omega) (by omega) hP
  rcases a4 with ⟨P1, a5⟩ | ⟨-, a5, p', b1, b2, b3, b4⟩
  · obtain ⟨z1, z2, z3, z4, z5, z6, z7, z8, z9, z10, z11, z12, z13, z14, z15, z16⟩ := id P1
    have t120 := z1.2.2.2.1
    have hC := c_number z1 z3 (by omega)
    have hM := m_figures z5 z7 (by omega) z8
    cases hd : isD t B (p + 5) with
    | false =>
      obtain ⟨μ', d1, d2, d3, d4⟩ := hM.2 hd
      refine ⟨0, σ1, μ1, μ', a1, d1, a2, o0_trans a3 d4, Or.inr ⟨?_, p + 5, z11, z3, d3, d2⟩⟩
      rw [a5 (by omega), hC.2 hd, bd_some]
      unfold f_X6_readClause_62
      rw [if_neg (by decide)]
    | true =>
      obtain ⟨σ', e1, e2, e3⟩ := hC.1 hd
      obtain ⟨μ', d1, d2, d3, d4⟩ := hM.1 hd
      have hE := nuE_at hd
      refine ⟨_, σ', μ1, μ', a1, d1, o40_trans a2 e3, o0_trans a3 d4, Or.inl ⟨nuV t B (p + 5), nuE t B (p + 5), nuV_le hd, rfl, by omega, PS_p P1 e3 d4 e2 d3 d2 (by omega) hE.2, ?_⟩⟩
      rw [a5 (by omega), e1, bd_some]
  · exact ⟨0, σ1, μ1, μ1, a1, w_fig b4, a2, a3, Or.inr ⟨a5, p', b1, b2, b3, b4⟩⟩
/-- what a clause answers -/
def CR (k t : Nat) (B : Nat → Nat) (cl p : Nat) (r : Int32) (σ μ σ' μ' : Mem) : Prop := F2c k σ σ' ∧ F2m k μ μ' ∧ ((r = 1 ∧ ∃ p' c' m' ec' G' v8 v9 v10, p < p' ∧ CLS k t B (cl + 1) p' c' m' ec' G' v8 v9 v10 σ' μ') ∨ (r = 0 ∧ ∃ p', p' ≤ t ∧ gI σ' 40 2 = nI p' ∧ gI μ' 0 5 = nI p' ∧ gI μ' 0 7 = 1))
theorem c_93 {n kd : Nat} {σ : Mem} (hk : k < 5) (h40 : gI σ 40 1 = nI (mo k)) : f_X6_readClause_93 (nI kd) (nI n) σ = bv (f_X3_appendClause (mo k) (nI kd) (nI n) σ) fun τ => some ((1 : Int32), τ) := by
  unfold f_X6_readClause_93
  rw [h40, im_mo hk, gd_true, tn_mo hk]
theorem c_app {n kd ec : Nat} {w : Int32} {σ : Mem} (hkd : kd < 4) (h6 : gI σ (mo k) 6 = nI ec) (h7 : gI σ (mo k) 7 = w) (hec : ec < 10) : f_X3_appendClause (mo k) (nI kd) (nI n) σ = some (sI (sI (sI (sI σ (mo k + 1) ec (nI kd)) (mo k + 2) ec (nI n)) (mo k + 3) ec w) (mo k) 6 (nI (ec + 1))) := by
  have d4 : ¬ nI kd = (4 : Int32) := by rw [show (4 : Int32) = nI 4 from rfl, nIeq (by omega) (by omega)]; omega
  have d5 : ¬ nI kd = (5 : Int32) := by rw [show (5 : Int32) = nI 5 from rfl, nIeq (by omega) (by omega)]; omega
  have d6 : nI kd ≤ (5 : Int32) := by rw [show (5 : Int32) = nI 5 from rfl, nIle (by omega) (by omega)]; omega
  unfold f_X3_appendClause
  rw [if_neg d4, if_neg d5, if_pos d6, h6, if_neg (show ¬ (10 : Int32) ≤ nI ec from nI_ge (b := 10) (by omega) (by omega)), ib_nI hec (by omega), gd_true, nI_tn (by omega), lt_eq]
  simp (disch := omega) only [gI_ss, gI_sk, gI_sc, h6, h7, ib_nI, gd_true, lt_eq, nI_tn, nI_1]
theorem J_much {cl kd p c m ec v8 v9 v10 : Nat} {G : Nat → (Nat → Int32) → Nat} (hkd : kd < 4) (hcl : cl < 10) {σ μ : Mem} (hS : CLS k t B cl p c m ec G v8 v9 v10 σ μ) : ∃ r σ' μ', fx3 f_X6_readClause_15 FU (nI kd) (nI 0) σ = some (r, σ') ∧ f_X12_much (4 + kd) (nI kd) μ = some μ' ∧ CR k t B cl p r σ μ σ' μ' := by
  obtain ⟨hP, s6, s0, s3, sec, sCT, sMT, sG, sV⟩ := id hS
  obtain ⟨v, σ1, μ0, μ1, a1, a2, a3, a4, a5⟩ := J_num (kd := kd) (by omega) hP
  unfold f_X12_much
  rw [a1, bv_some, a2, bd_some]
  rcases a5 with ⟨n, e, b1, b2, b3, b4, b5⟩ | ⟨b1, p', b2, b3, b4, b5⟩
  · rw [b5, b2]
    obtain ⟨z1, z2, z3, z4, z5, z6, z7, z8, z9, z10, z11, z12, z13, z14, z15, z16⟩ := id b4
    have t120 := z1.2.2.2.1
    have hF : 20 < FU := by decide
    obtain ⟨μ2, w1, w2, w3⟩ := m_must (c := 32) z5 z7 (by omega) (by omega) z8
    rw [show (32 : Int32) = nI 32 from rfl, w1, bv_some]
    have hp := c_pass (c := 32) z1 z3 (by omega) (by omega)
    unfold f_X6_readClause_62
    rw [if_pos (nI_pos' (by omega)), if_neg (show ¬ (3 : Int32) < nI kd by rw [show (3 : Int32) = nI 3 from rfl, nIlt (by omega) (by omega)]; omega), show (32 : Int32) = nI 32 from rfl, hp]
    rcases w3 with ⟨x1, x2, x3, x4⟩ | ⟨x1, x3, x4⟩
    · rw [if_pos ⟨x1, x2⟩, bd_some, if_neg (by decide)]
      have oσ : o40 σ1 (sI σ1 40 2 (nI (e + 1))) := o40_s _ _
      have P2 : PS k t B cl (e + 1) c m 0 (sI σ1 40 2 (nI (e + 1))) μ2 := PS_p b4 oσ w2 (gI_ss _ _ _ _) x4 x3 (by omega) (by omega)
      generalize sI σ1 40 2 (nI (e + 1)) = σ2 at oσ P2
      obtain ⟨r, σ3, μ3, d1, d2, d3⟩ := J_any P2
      rw [d1, bd_some, d2, bv_some]
      have fc2 : F2c k σ σ2 := F2c_trans (F2c_o a3) (F2c_o oσ)
      have fm2 : F2m k μ μ2 := F2m_trans (F2m_o a4) (F2m_o w2)
      rcases d3 with ⟨rfl, p', c', m', T, hG⟩ | ⟨rfl, f1, f2, p', c', y1, y2, y3, y4, y5, y6, y7⟩
      · obtain ⟨g1, g2, g3, g4, g5, g6, g7, g8, g9, g10⟩ := hG
        have g9' : SC (mo k) (gI σ3 (mo k + 4)) c c' T 13 := SC_T g9 (fun s => by simp)
        obtain ⟨q1, q2, q3, q4, q5, q6, q7, q8, q9, q10, q11, q12, q13, q14, q15, q16⟩ := id g8
        have e6 : gI σ3 (mo k) 6 = nI ec := by
          rw [g1.2.2.1 6 (by omega), oσ.1 _ (mo40 k), a3.1 _ (mo40 k)]
          exact s6
        rw [if_neg (by decide), c_93 q14 q2, c_app hkd e6 q4 (by omega), bv_some]
        rw [m_emit _ q14 q6 q8 q10 (by omega), bv_some]
        refine ⟨1, _, _, rfl, rfl, ?_, ?_, Or.inl ⟨rfl, p', c', m' + 1, ec + 1, addG G kd n T, v8, v9, v10, by omega, ?_⟩⟩
        · refine F2c_trans fc2 (F2c_trans (F2c_F g1) ⟨fun r u v => by simp (disch := omega) only [gIr, gIrL], fun j _ => ?_⟩)
          have := mo40 k
          rw [gIr _ _ _ (Ne.symm this), gIr _ _ _ (by unfold mo; omega), gIr _ _ _ (by unfold mo; omega), gIr _ _ _ (by unfold mo; omega)]
        · refine F2m_trans fm2 (F2m_trans (F2m_F g2) (F2m_F (m := m') (Fm_emit μ3 _ _ (Nat.le_refl _) (by omega))))
        · have P3 := PS_mm (PS_x g8 (show cl ≤ cl + 1 by omega) (by omega)) (show m' + 1 ≤ p' + (cl + 1) by omega) (((-10 : Int32) - ((100 : Int32) * nI kd)) - nI n)
          generalize hμ4 : sI (sI μ3 1 (151 + 140 * k + m') (((-10 : Int32) - ((100 : Int32) * nI kd)) - nI n)) 1 (146 + k) (nI (m' + 1)) = μ4 at P3
          have r1 : ∀ i, 1 ≤ i → i ≤ 3 → ∀ j, gI σ3 (mo k + i) j = gI σ (mo k + i) j := fun i u v j => by
            rw [g1.1 _ (by unfold mo; omega) (by omega) (by omega), oσ.1 _ (by unfold mo; omega), a3.1 _ (by unfold mo; omega)]
          have r4 : ∀ j, j < c → gI σ3 (mo k + 4) j = gI σ (mo k + 4) j := fun j u => by
            rw [g1.2.2.2 j u, oσ.1 _ (by unfold mo; omega), a3.1 _ (by unfold mo; omega)]
          have r0 : ∀ j, j ≠ 7 → gI σ3 (mo k) j = gI σ (mo k) j := fun j u => by
            rw [g1.2.2.1 j u, oσ.1 _ (mo40 k), a3.1 _ (mo40 k)]
          have m1 : ∀ j, j ≠ 146 + k → (j < 151 + 140 * k + m ∨ 291 + 140 * k ≤ j) → gI μ3 1 j = gI μ 1 j := fun j u v => by
            rw [g2.2.2 j u v, w2.1 1 (by omega), a4.1 1 (by omega)]
          have n1 : ∀ j, j ≠ 146 + k → j ≠ 151 + 140 * k + m' → gI μ4 1 j = gI μ3 1 j := fun j u v => by
            rw [← hμ4, gI_sk _ _ _ u, gI_sk _ _ _ v]
          refine ⟨?_, gI_ss _ _ _ _, fun h => by omega, fun _ => ?_, by omega, ?_, ?_, ?_, ?_⟩
          · obtain ⟨⟨y1, y2, y3, y4⟩, y5, y6, y7, y8⟩ := P3
            have h40 : ∀ j, gI (sI (sI (sI (sI σ3 (mo k + 1) ec (nI kd)) (mo k + 2) ec (nI n)) (mo k + 3) ec (nI c')) (mo k) 6 (nI (ec + 1))) 40 j = gI σ3 40 j := fun j => by
              rw [gI_sc _ _ _ _ (Ne.symm (mo40 k)), gI_sc _ _ _ _ (by unfold mo; omega), gI_sc _ _ _ _ (by unfold mo; omega), gI_sc _ _ _ _ (by unfold mo; omega)]
            have hlo : ∀ r, r < 48 → ∀ j, gI (sI (sI (sI (sI σ3 (mo k + 1) ec (nI kd)) (mo k + 2) ec (nI n)) (mo k + 3) ec (nI c')) (mo k) 6 (nI (ec + 1))) r j = gI σ3 r j := fun r hr j => by
              rw [gI_sc _ _ _ _ (by unfold mo; omega), gI_sc _ _ _ _ (by unfold mo; omega), gI_sc _ _ _ _ (by unfold mo; omega), gI_sc _ _ _ _ (by unfold mo; omega)]
            refine ⟨⟨by rw [hlo 3 (by omega)]; exact y1, fun j hj => by rw [hlo 4 (by omega)]; exact y2 j hj, by rw [h40]; exact y3, y4⟩, by rw [h40]; exact y5, by rw [h40]; exact y6, ?_, y8⟩
            rw [gI_sk _ _ _ (by omega), gI_sc _ _ _ _ (by omega), gI_sc _ _ _ _ (by omega), gI_sc _ _ _ _ (by omega)]
            exact y7
          · rw [show ec + 1 - 1 = ec by omega, gI_sc _ _ _ _ (by omega), gI_ss]
          · refine CT_next (a' := gI (sI (sI (sI (sI σ3 (mo k + 1) ec (nI kd)) (mo k + 2) ec (nI n)) (mo k + 3) ec (nI c')) (mo k) 6 (nI (ec + 1)))) sCT (c' := c') (h := 13) ?_ (by omega) (by omega) s0 s3 ?_ ?_ ?_ ?_ ?_
            · exact SC_f g9' (fun j _ _ => by rw [gI_sc _ _ _ _ (by omega), gI_sc _ _ _ _ (by omega), gI_sc _ _ _ _ (by omega), gI_sc _ _ _ _ (by omega)])
            · intro i u v j w
              rw [gI_sc _ _ _ _ (by omega)]
              refine Eq.trans ?_ (r1 i u v j)
              rcases (show i = 1 ∨ i = 2 ∨ i = 3 by omega) with rfl | rfl | rfl
              · rw [gI_sc _ _ _ _ (by omega), gI_sc _ _ _ _ (by omega), gI_sk _ _ _ (by omega)]
              · rw [gI_sc _ _ _ _ (by omega), gI_sk _ _ _ (by omega), gI_sc _ _ _ _ (by omega)]
              · rw [gI_sk _ _ _ (by omega), gI_sc _ _ _ _ (by omega), gI_sc _ _ _ _ (by omega)]
            · intro j w
              rw [gI_sc _ _ _ _ (by omega), gI_sc _ _ _ _ (by omega), gI_sc _ _ _ _ (by omega), gI_sc _ _ _ _ (by omega)]
              exact r4 j w
            · rw [gI_sc _ _ _ _ (by omega), gI_sc _ _ _ _ (by omega), gI_sc _ _ _ _ (by omega), gI_ss]
            · rw [gI_sc _ _ _ _ (by omega), gI_sc _ _ _ _ (by omega), gI_ss]
            · rw [gI_sc _ _ _ _ (by omega), gI_ss]
          · refine MT_next sMT (h := 13) (SM_f g10 (fun j u v => n1 j (by omega) (by omega))) (by omega) hkd (by omega) (fun j u v => ?_) ?_
            · rw [n1 j (by omega) (by omega)]
              exact m1 j (by omega) (by omega)
            · rw [← hμ4, gI_sk _ _ _ (by omega), gI_ss]
          · intro kd' sg
            have := sG kd' sg
            unfold addG
            split <;> omega
          · obtain ⟨V1, ⟨V2, V3, V4⟩, V5, V6, V7⟩ := sV
            have hlo : ∀ j, j ≠ 6 → j ≠ 7 → gI (sI (sI (sI (sI σ3 (mo k + 1) ec (nI kd)) (mo k + 2) ec (nI n)) (mo k + 3) ec (nI c')) (mo k) 6 (nI (ec + 1))) (mo k) j = gI σ (mo k) j := fun j u v => by
              rw [gI_sk _ _ _ u, gI_sc _ _ _ _ (by omega), gI_sc _ _ _ _ (by omega), gI_sc _ _ _ _ (by omega)]
              exact r0 j v
            have hm1 : ∀ j, j < 146 → gI μ4 1 j = gI μ 1 j := fun j u => by
              rw [n1 j (by omega) (by omega)]
              exact m1 j (by omega) (by omega)
            exact ⟨V1, ⟨by rw [hlo 8 (by omega) (by omega)]; exact V2, by rw [hlo 9 (by omega) (by omega)]; exact V3, by rw [hlo 10 (by omega) (by omega)]; exact V4⟩, by rw [hm1 _ (by omega)]; exact V5, by rw [hm1 _ (by omega)]; exact V6, by rw [hm1 _ (by omega)]; exact V7⟩
      · refine ⟨0, σ3, μ3, by rw [if_pos rfl], by rw [w_emit _ y7, bv_some], F2c_trans fc2 (F2c_F f1), F2m_trans fm2 (F2m_F f2), Or.inr ⟨rfl, p', y1, y4, y6, y7⟩⟩
    · rw [if_neg x1, bd_some, if_pos rfl]
      have hs : f_X12_somex μ2 = some μ2 := w_some (w_factor 15 x3) x3
      rw [hs, bv_some, w_emit _ x3, bv_some]
      exact ⟨0, _, _, rfl, rfl, F2c_o a3, F2m_trans (F2m_o a4) (F2m_o w2), Or.inr ⟨rfl, e, z11, z3, x4, x3⟩⟩
  · have hs : f_X12_somex μ1 = some μ1 := w_some (w_factor 15 b5) b5
    rw [w_must _ b5, bv_some, hs, bv_some, w_emit _ b5, bv_some]
    exact ⟨0, σ1, μ1, b1, rfl, F2c_o a3, F2m_o a4, Or.inr ⟨rfl, p', b2, b3, b4, b5⟩⟩
end CLB
