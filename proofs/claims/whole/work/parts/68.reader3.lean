/-! A PART -/
section FAC
variable {k t : Nat} {B : Nat → Nat} {x : Nat}
theorem c_69 {rc : Int32 → Mem → Option (Int32 × Mem)} {x1 q : Nat} {r : Int32} {σ : Mem} (hx : x1 ≤ q) (hq : q ≤ 5) (h1 : gI σ 40 1 = nI (mo k)) (hk : k < 5) (hr : iz r = true) : f_X6_readOne_69 rc (nI x1) (nI q) r σ = if decide ((q - x1) % 2 = 1) = true then (bv (f_X3_appendCode (mo k) (-1) σ) fun τ => some (r, τ)) else some (r, σ) := by
  unfold f_X6_readOne_69
  rw [nIsub hx, show (2 : Int32) = nI 2 from rfl, nIrem (by omega) (by omega) (by omega), hr, h1, im_mo hk, gd_true, tn_mo hk]
  by_cases g : (q - x1) % 2 = 1
  · rw [if_pos (show nI ((q - x1) % 2) = 1 from by rw [g]; rfl), if_pos (decide_eq_true g)]
    rfl
  · rw [if_neg (show ¬ nI ((q - x1) % 2) = 1 from fun z => g (nI_inj (b := 1) (by omega) (by omega) z)), if_neg (by rw [decide_eq_false g]; decide), gd_true]
theorem fin_good {rc : Int32 → Mem → Option (Int32 × Mem)} {x1 q h p c m p' c' m' : Nat} {T : (Nat → Int32) → Bool} {σ μ σ' μ' : Mem} (hx : x1 ≤ q) (hG : Good k t B x h q p c m T T p' c' m' σ μ σ' μ') (hroom : c' + 1 + p ≤ c + p') (hcp : c ≤ p) : ∃ σ'' c'', f_X6_readOne_69 rc (nI x1) (nI q) 1 σ' = some (1, σ'') ∧ Good k t B x h q p c m (fun s => Bool.xor (decide ((q - x1) % 2 = 1)) (T s)) T p' c'' m' σ μ σ'' μ' := by
  obtain ⟨g1, g2, g3, g4, g5, g6, g7, g8, g9, g10⟩ := hG
  obtain ⟨z1, z2, z3, z4, z5, z6, z7, z8, z9, z10, z11, z12, z13, z14, z15, z16⟩ := id g8
  have t120 := z1.2.2.2.1
  rw [c_69 hx z16 z2 z14 rfl]
  by_cases g : (q - x1) % 2 = 1
  · rw [if_pos (decide_eq_true g), c_code _ z4 (by omega), bv_some]
    refine ⟨_, c' + 1, rfl, Fc_trans g1 (Fc_code σ' _ _ (Nat.le_refl c')) g4, g2, g3, by omega, by omega, g6, g7, PS_cc g8 (by omega) _, ?_, g10⟩
    refine SC_T (SC_not (SC_f g9 (fun j _ hj => ?_)) ?_) (fun s => ?_)
    · rw [gI_sc _ _ _ _ (by omega), gI_sk _ _ _ (by omega)]
    · rw [gI_sc _ _ _ _ (by omega), gI_ss]
    · rw [decide_eq_true g]
      cases T s <;> rfl
  · rw [if_neg (by rw [decide_eq_false g]; decide)]
    refine ⟨σ', c', rfl, g1, g2, g3, g4, g5, g6, g7, g8, SC_T g9 (fun s => ?_), g10⟩
    rw [decide_eq_false g]
    cases T s <;> rfl
theorem fin_bad {rc : Int32 → Mem → Option (Int32 × Mem)} {x1 q c : Nat} {σ σ' μ' : Mem} (hx : x1 ≤ q) (hq : q ≤ 5) (hk : k < 5) (h40 : gI σ 40 1 = nI (mo k)) (f : Fc k c σ σ') (hB : Bad k t c σ' μ') : ∃ σ'', f_X6_readOne_69 rc (nI x1) (nI q) 0 σ' = some (0, σ'') ∧ Fc k c σ σ'' ∧ Bad k t c σ'' μ' := by
  obtain ⟨p2, c2, b3, b4, b5, b6, b7, b8, b9⟩ := hB
  rw [c_69 hx hq (by rw [f.2.1 1 (by omega)]; exact h40) hk rfl]
  by_cases g : (q - x1) % 2 = 1
  · obtain ⟨σ4, c4, d1, d2, d3, d4, d5, d6⟩ := c_codeX (k := k) (-1) b7 b5
    rw [if_pos (decide_eq_true g), d1, bv_some]
    exact ⟨σ4, rfl, Fc_trans f d2 b4, p2, c4, b3, by omega, d6, d3.trans b6, d4, b8, b9⟩
  · rw [if_neg (by rw [decide_eq_false g]; decide)]
    exact ⟨σ', rfl, f, p2, c2, b3, b4, b5, b6, b7, b8, b9⟩
/-- what is wrong, on the way out -/
theorem w_101 {rc : Mem → Option Mem} {μ : Mem} {y : Int32} (h5 : gI μ 0 5 = y) (h7 : gI μ 0 7 = 1) : ∃ μ', f_X12_factor_101 rc μ = some μ' ∧ gI μ' 0 5 = y ∧ gI μ' 0 7 = 1 ∧ ∀ m, Fm k m μ μ' := by
  refine ⟨sI μ 0 8 (gI μ 0 8 - 1), rfl, ?_, ?_, fun m => Fm_8 μ _⟩
  · rw [gI_sk _ _ _ (by omega)]; exact h5
  · rw [gI_sk _ _ _ (by omega)]; exact h7
theorem J_fac : ∀ d q : Nat, q + d = 5 → ∀ (fuC fuM fu x1 p c m : Nat) (σ μ : Mem), d + 1 ≤ fuC → d + 2 ≤ fuM → d + 1 ≤ fu → x1 ≤ q → PS k t B x p c m q σ μ → ∃ r σ' μ', fx3 (f_X6_readOne_2 (fx2 f_X6_readAny_F fuC)) fu (nI x1) (nI q) σ = some (r, σ') ∧ fx1 f_X12_factor_F fuM μ = some μ' ∧ Res k t B x (1 + 2 * d) q p c m (decide ((q - x1) % 2 = 1)) σ μ r σ' μ' := by
  intro d
  induction d with
  | zero =>
    intro q hq fuC fuM fu x1 p c m σ μ hfC hfM hf hx hP
    have hq5 : q = 5 := by omega
    subst hq5
    obtain ⟨fuM, rfl⟩ : ∃ z, fuM = z + 2 := ⟨fuM - 2, by omega⟩
    obtain ⟨fu, rfl⟩ : ∃ z, fu = z + 1 := ⟨fu - 1, by omega⟩
    obtain ⟨z1, z2, z3, z4, z5, z6, z7, z8, z9, z10, z11, z12, z13, z14, z15, z16⟩ := id hP
    have t120 := z1.2.2.2.1
    have eC : fx3 (f_X6_readOne_2 (fx2 f_X6_readAny_F fuC)) (fu + 1) (nI x1) (nI 5) σ = bd (f_X6_readTest σ) fun r_20 σ_21 => f_X6_readOne_69 (fx2 f_X6_readAny_F fuC) (nI x1) (nI 5) r_20 σ_21 := by
      show f_X6_readOne_2 _ (fx3 (f_X6_readOne_2 (fx2 f_X6_readAny_F fuC)) fu) _ _ _ = _
      generalize fx3 (f_X6_readOne_2 (fx2 f_X6_readAny_F fuC)) fu = kk
      unfold f_X6_readOne_2 f_X6_readOne_22 f_X6_readOne_64
      rw [if_pos (by decide), if_pos (by decide)]
    rw [eC]
    show ∃ r σ' μ', _ ∧ f_X12_factor_F (fx1 f_X12_factor_F (fuM + 1)) μ = some μ' ∧ _
    have wrc : ∀ ν : Mem, gI ν 0 7 = 1 → fx1 f_X12_factor_F (fuM + 1) ν = some ν := fun ν h => w_factor fuM h
    generalize fx1 f_X12_factor_F (fuM + 1) = rc at *
    by_cases qb : p < t ∧ (B p = 33 ∨ B p = 40)
    · -- too deep
      have ea : at_ t B p = nI (B p) := if_pos qb.1
      have hb := z1.2.2.2.2 p qb.1
      have c0 : f_X6_readTest σ = some (0, σ) := by
        rcases c_placeIn lw2 z1 z3 (by omega) with ⟨i, i1, i2, i3, i4, i5⟩ | ⟨i1, i2⟩
        · exfalso
          rcases (show i = 0 ∨ i = 1 ∨ i = 2 ∨ i = 3 ∨ i = 4 ∨ i = 5 by omega) with rfl | rfl | rfl | rfl | rfl | rfl <;> (unfold L2 at i3; simp at i3; omega)
        · unfold f_X6_readTest
          rw [i2, bd_some, if_neg (by decide)]
      obtain ⟨σ'', s1, s2, s3⟩ := fin_bad (t := t) (μ' := sI (sI μ 0 7 1) 0 8 (nI 6)) (rc := fx2 f_X6_readAny_F fuC) hx z16 z14 z2 (Fc_refl k c σ) ⟨p, c, z11, Nat.le_refl _, by omega, z3, z4, by simp (disch := omega) only [gI_ss, gI_sk, gI_sc]; exact z7, by simp (disch := omega) only [gI_ss, gI_sk, gI_sc]⟩
      obtain ⟨ν, hν⟩ : ∃ ν, ν = sI (sI μ 0 7 1) 0 8 (nI 6) := ⟨_, rfl⟩
      have n7 : gI ν 0 7 = 1 := by rw [hν]; simp (disch := omega) only [gI_ss, gI_sk, gI_sc]
      have n5 : gI ν 0 5 = nI p := by rw [hν]; simp (disch := omega) only [gI_ss, gI_sk, gI_sc]; exact z7
      obtain ⟨μ', w1, w2, w3, w4⟩ := w_101 (k := k) (rc := rc) n5 n7
      have m25 : ∀ ch : Nat, (ch = 33 ∨ ch = 40) → f_X12_factor_25 rc (nI ch) μ = some μ' := fun ch hch => by
        unfold f_X12_factor_25
        rw [z9, if_pos (by rfl)]
        unfold f_X12_factor_39
        have e8 : gI (sI μ 0 7 1) 0 8 = nI 5 := by simp (disch := omega) only [gI_ss, gI_sk, gI_sc]; exact z9
        rw [show iz (1 : Int32) = true from rfl, gd_true, lt_eq, e8, nI_1, lt_eq, ← hν, n7, if_neg (by decide)]
        unfold f_X12_factor_69
        rw [Int32.add_zero, sI_self, lt_eq]
        rcases hch with rfl | rfl
        · rw [if_pos (by rfl), wrc ν n7, bv_some, w_emit _ n7, bv_some]
          exact w1
        · rw [if_neg (by decide), w_some (wrc ν n7) n7, bv_some, w_must _ n7, bv_some]
          exact w1
      obtain ⟨p2, c2, b3, b4, b5, b6, b7, b8, b9⟩ := s3
      have fm : Fm k m μ μ' := by
        refine Fm_trans (m1 := m) (τ := ν) ?_ (w4 m) (Nat.le_refl _)
        rw [hν]
        exact Fm_trans (Fm_o (o0_7 _ _)) (Fm_8 _ _) (Nat.le_refl m)
      have p2p : p2 = p := by
        have e1 : gI (sI (sI μ 0 7 1) 0 8 (nI 6)) 0 5 = nI p := by simp (disch := omega) only [gI_ss, gI_sk, gI_sc]; exact z7
        exact nI_inj (by omega) (by omega) (b8.symm.trans e1)
      refine ⟨0, σ'', μ', ?_, ?_, Or.inr ⟨rfl, s2, fm, p2, c2, b3, b4, b5, b6, b7, by rw [p2p]; exact w2, w3⟩⟩
      · rw [c0, bd_some]
        exact s1
      · unfold f_X12_factor_F
        rw [z8, if_pos rfl, m_here z5 z7 (by omega), bd_some, ea]
        rcases qb.2 with e | e
        · rw [e, if_pos (by rfl)]
          exact m25 33 (Or.inl rfl)
        · rw [e, if_neg (by decide), if_pos (by rfl)]
          exact m25 40 (Or.inr rfl)
    · have n33 : ¬ at_ t B p = 33 := fun z => by
        have e := at_eq (p := p) z5.2.2.2 (show 33 < 256 by omega)
        have := e ▸ z
        exact qb ⟨this.1, Or.inl this.2⟩
      have n40 : ¬ at_ t B p = 40 := fun z => by
        have e := at_eq (p := p) z5.2.2.2 (show 40 < 256 by omega)
        have := e ▸ z
        exact qb ⟨this.1, Or.inr this.2⟩
      have eM : f_X12_factor_F rc μ = mTest rc μ := by
        unfold f_X12_factor_F
        rw [z8, if_pos rfl, m_here z5 z7 (by omega), bd_some, if_neg n33, if_neg n40]
        rfl
      rw [eM]
      obtain ⟨r, σ1, μ1, s1, s2, s3⟩ := J_test rc hP
      rw [s1, bd_some, s2]
      rcases s3 with ⟨rfl, p', c', m', T, t1, t2, hG⟩ | ⟨rfl, b1, b2, b3⟩
      · obtain ⟨σ'', c'', y1, y2⟩ := fin_good (rc := fx2 f_X6_readAny_F fuC) hx hG (by omega) z12
        exact ⟨1, σ'', μ1, y1, rfl, Or.inl ⟨rfl, p', c'', m', T, y2⟩⟩
      · obtain ⟨σ'', y1, y2, y3⟩ := fin_bad (rc := fx2 f_X6_readAny_F fuC) hx z16 z14 z2 b1 b3
        exact ⟨0, σ'', μ1, y1, rfl, Or.inr ⟨rfl, y2, b2, y3⟩⟩
  | succ d ih =>
    intro q hq fuC fuM fu x1 p c m σ μ hfC hfM hf hx hP
    obtain ⟨fuM, rfl⟩ : ∃ z, fuM = z + 1 := ⟨fuM - 1, by omega⟩
    obtain ⟨fu, rfl⟩ : ∃ z, fu = z + 1 := ⟨fu - 1, by omega⟩
    obtain ⟨z1, z2, z3, z4, z5, z6, z7, z8, z9, z10, z11, z12, z13, z14, z15, z16⟩ := id hP
    have t120 := z1.2.2.2.1
    have e33 := at_eq (p := p) z5.2.2.2 (show 33 < 256 by omega)
    have e40 := at_eq (p := p) z5.2.2.2 (show 40 < 256 by omega)
    have h5q : ¬ (5 : Int32) ≤ nI q := nI_ge (a := q) (b := 5) (by omega) (by omega)
    have nq5 : ¬ nI q = (5 : Int32) := fun z => by have := nI_inj (b := 5) (by omega) (by omega) z; omega
    -- the model, one deeper
    obtain ⟨μ1, hμ1⟩ : ∃ μ1, μ1 = sI (sI (sI μ 0 7 0) 0 8 (nI (q + 1))) 0 5 (nI (p + 1)) := ⟨_, rfl⟩
    have f1 : Fm k m μ μ1 := by
      rw [hμ1]
      exact Fm_trans (Fm_trans (Fm_o (o0_7 _ _)) (Fm_8 _ _) (Nat.le_refl m)) (Fm_o (o0_5 _ _)) (Nat.le_refl m)
    have m25 : ∀ (rc : Mem → Option Mem) (ch : Int32), f_X12_factor_25 rc ch μ = if ch = (33 : Int32) then (bv (rc μ1) fun σ_33 => bv (f_X12_emits (-1 : Int32) σ_33) fun σ_36 => f_X12_factor_101 rc σ_36) else bv (f_X12_some rc μ1) fun σ_27 => bv (f_X12_must (41 : Int32) σ_27) fun σ_30 => f_X12_factor_101 rc σ_30 := fun rc ch => by
      have y8 : gI (sI μ 0 7 0) 0 8 = nI q := by simp (disch := omega) only [gI_ss, gI_sk, gI_sc]; exact z9
      have y7 : gI (sI (sI μ 0 7 0) 0 8 (nI (q + 1))) 0 7 = 0 := by simp (disch := omega) only [gI_ss, gI_sk, gI_sc]
      have y5 : gI (sI (sI μ 0 7 0) 0 8 (nI (q + 1))) 0 5 = nI p := by simp (disch := omega) only [gI_ss, gI_sk, gI_sc]; exact z7
      unfold f_X12_factor_25
      rw [z9, if_neg nq5]
      unfold f_X12_factor_39
      rw [show iz (0 : Int32) = true from rfl, gd_true, lt_eq, y8, nI_1, lt_eq, y7, if_pos rfl, y5]
      unfold f_X12_factor_69
      rw [nI_1, lt_eq, ← hμ1]
    -- and back
    have back : ∀ (rc : Mem → Option Mem) (p' c' m' : Nat) (σ' ν : Mem), PS k t B x p' c' m' (q + 1) σ' ν → f_X12_factor_101 rc ν = some (sI ν 0 8 (nI q)) ∧ PS k t B x p' c' m' q σ' (sI ν 0 8 (nI q)) := fun rc p' c' m' σ' ν h => by
      refine ⟨?_, PS_q h (by omega)⟩
      unfold f_X12_factor_101
      rw [h.2.2.2.2.2.2.2.2.1, show nI (q + 1) - 1 = nI q from nI_pred q, lt_eq]
    show ∃ r σ' μ', f_X6_readOne_2 _ (fx3 (f_X6_readOne_2 (fx2 f_X6_readAny_F fuC)) fu) _ _ _ = _ ∧ f_X12_factor_F (fx1 f_X12_factor_F fuM) μ = some μ' ∧ _
    by_cases qb : p < t ∧ B p = 33
    · -- !
      obtain ⟨σ1, hσ1⟩ : ∃ σ1, σ1 = sI σ 40 2 (nI (p + 1)) := ⟨_, rfl⟩
      have oσ : o40 σ σ1 := by rw [hσ1]; exact o40_s _ _
      have P1 : PS k t B x (p + 1) c m (q + 1) σ1 μ1 := by
        have P0 := PS_p (p' := p + 1) hP oσ (o0_trans (o0_7 μ 0) (o0_5 _ (nI (p + 1)))) (by rw [hσ1]; simp (disch := omega) only [gI_ss, gI_sk, gI_sc]) (gI_ss _ _ _ _) (by simp (disch := omega) only [gI_ss, gI_sk, gI_sc]) (by omega) (by omega)
        have P0 := PS_q P0 (q' := q + 1) (by omega)
        have : sI (sI (sI μ 0 7 0) 0 5 (nI (p + 1))) 0 8 (nI (q + 1)) = μ1 := by
          rw [hμ1]
          refine Prod.ext ?_ rfl
          funext r j
          show gI (sI (sI (sI μ 0 7 0) 0 5 (nI (p + 1))) 0 8 (nI (q + 1))) r j = gI (sI (sI (sI μ 0 7 0) 0 8 (nI (q + 1))) 0 5 (nI (p + 1))) r j
          rw [gI_s, gI_s, gI_s, gI_s, gI_s, gI_s]
          by_cases r0 : r = 0
          · subst r0
            simp only [↓reduceIte]
            by_cases j8 : j = 8
            · subst j8; simp
            · by_cases j5 : j = 5
              · subst j5; simp
              · simp [j8, j5]
          · simp [r0]
        rw [this] at P0
        exact P0
      obtain ⟨r, σ', ν, s1, s2, s3⟩ := ih (q + 1) (by omega) fuC fuM fu x1 (p + 1) c m σ1 μ1 (by omega) (by omega) (by omega) (by omega) P1
      have eC : f_X6_readOne_2 (fx2 f_X6_readAny_F fuC) (fx3 (f_X6_readOne_2 (fx2 f_X6_readAny_F fuC)) fu) (nI x1) (nI q) σ = some (r, σ') := by
        rw [← s1]
        generalize fx3 (f_X6_readOne_2 (fx2 f_X6_readAny_F fuC)) fu = kk
        unfold f_X6_readOne_2
        rw [if_neg h5q, show (33 : Int32) = nI 33 from rfl, c_pass z1 z3 (by omega) (by omega), if_pos qb, bd_some, if_neg (by decide), nI_1, lt_eq, hσ1]
      have eM : f_X12_factor_F (fx1 f_X12_factor_F fuM) μ = bv (f_X12_emits (-1 : Int32) ν) fun σ_36 => f_X12_factor_101 (fx1 f_X12_factor_F fuM) σ_36 := by
        unfold f_X12_factor_F
        rw [z8, if_pos rfl, m_here z5 z7 (by omega), bd_some]
        have e : at_ t B p = 33 := by show at_ t B p = nI 33; rw [e33]; exact qb
        rw [e, if_pos rfl]
        refine Eq.trans (m25 _ _) ?_
        rw [if_pos rfl]
        have s2 : fx1 f_X12_factor_F fuM μ1 = some ν := s2
        exact (congrArg (fun z => bv z fun σ_33 => bv (f_X12_emits (-1 : Int32) σ_33) fun σ_36 => f_X12_factor_101 (fx1 f_X12_factor_F fuM) σ_36) s2).trans rfl
      rw [eC, eM]
      rcases s3 with ⟨rfl, p', c', m', T, hG⟩ | ⟨rfl, b1, b2, p2, c2, b3, b4, b5, b6, b7, b8, b9⟩
      · obtain ⟨g1, g2, g3, g4, g5, g6, g7, g8, g9, g10⟩ := hG
        obtain ⟨y1, y2, y3, y4, y5, y6, y7, y8, y9, y10, y11, y12, y13, y14, y15, y16⟩ := id g8
        have P2 := PS_mm g8 (by omega) (-1)
        obtain ⟨k1, k2⟩ := back (fx1 f_X12_factor_F fuM) _ _ _ _ _ P2
        have fe := Fm_emit (k := k) (m := m') (m1 := m') ν (-1) (nI (m' + 1)) (Nat.le_refl _) (by omega)
        refine ⟨1, σ', _, rfl, ?_, Or.inl ⟨rfl, p', c', m' + 1, fun s => !T s, Fc_trans (Fc_o oσ) g1 (Nat.le_refl c), Fm_trans (Fm_trans (Fm_trans f1 g2 (Nat.le_refl m)) fe g6) (Fm_8 _ _) (Nat.le_refl m), by omega, g4, by omega, by omega, by omega, k2, SC_T (SC_h g9 (by omega)) (fun s => ?_), ?_⟩⟩
        · rw [m_emit _ z14 y6 y8 y10 (by omega), bv_some]
          exact k1
        · by_cases g : (q - x1) % 2 = 1
          · rw [decide_eq_true g, decide_eq_false (show ¬ (q + 1 - x1) % 2 = 1 by omega)]
            show Bool.xor true (!T s) = Bool.xor false (T s)
            cases T s <;> rfl
          · rw [decide_eq_false g, decide_eq_true (show (q + 1 - x1) % 2 = 1 by omega)]
            show Bool.xor false (!T s) = Bool.xor true (T s)
            cases T s <;> rfl
        · refine SM_h (SM_not (b := 151 + 140 * k + m') (SM_f g10 (fun j h1 hj => ?_)) ?_) (show 1 + 2 * d ≤ 1 + 2 * (d + 1) by omega)
          · rw [gI_sc _ _ _ _ (by omega), gI_sk _ _ _ (by omega), gI_sk _ _ _ (by omega)]
          · rw [gI_sc _ _ _ _ (by omega), gI_sk _ _ _ (by omega), gI_ss]
      · obtain ⟨μ', w1, w2, w3, w4⟩ := w_101 (k := k) (rc := fx1 f_X12_factor_F fuM) b8 b9
        refine ⟨0, σ', μ', rfl, ?_, Or.inr ⟨rfl, Fc_trans (Fc_o oσ) b1 (Nat.le_refl c), Fm_trans (Fm_trans f1 b2 (Nat.le_refl m)) (w4 m) (Nat.le_refl m), p2, c2, b3, b4, b5, b6, b7, w2, w3⟩⟩
        rw [w_emit _ b9, bv_some]
        exact w1
    · by_cases qp : p < t ∧ B p = 40
      · -- (
        obtain ⟨σ1, hσ1⟩ : ∃ σ1, σ1 = sI σ 40 2 (nI (p + 1)) := ⟨_, rfl⟩
        have oσ : o40 σ σ1 := by rw [hσ1]; exact o40_s _ _
        have P1 : PS k t B x (p + 1) c m (q + 1) σ1 μ1 := by
          have P0 := PS_p (p' := p + 1) hP oσ (o0_trans (o0_7 μ 0) (o0_5 _ (nI (p + 1)))) (by rw [hσ1]; simp (disch := omega) only [gI_ss, gI_sk, gI_sc]) (gI_ss _ _ _ _) (by simp (disch := omega) only [gI_ss, gI_sk, gI_sc]) (by omega) (by omega)
          have P0 := PS_q P0 (q' := q + 1) (by omega)
          have : sI (sI (sI μ 0 7 0) 0 5 (nI (p + 1))) 0 8 (nI (q + 1)) = μ1 := by
            rw [hμ1]
            refine Prod.ext ?_ rfl
            funext r j
            show gI (sI (sI (sI μ 0 7 0) 0 5 (nI (p + 1))) 0 8 (nI (q + 1))) r j = gI (sI (sI (sI μ 0 7 0) 0 8 (nI (q + 1))) 0 5 (nI (p + 1))) r j
            rw [gI_s, gI_s, gI_s, gI_s, gI_s, gI_s]
            by_cases r0 : r = 0
            · subst r0
              simp only [↓reduceIte]
              by_cases j8 : j = 8
              · subst j8; simp
              · by_cases j5 : j = 5
                · subst j5; simp
                · simp [j8, j5]
            · simp [r0]
          rw [this] at P0
          exact P0
        -- E, one deeper
        obtain ⟨fuC, rfl⟩ : ∃ z, fuC = z + 1 := ⟨fuC - 1, by omega⟩
        have HF : ∀ (p c m : Nat) (σ μ : Mem), PS k t B x p c m (q + 1) σ μ → ∃ r σ' μ', f_X6_readOne (fx2 f_X6_readAny_F fuC) (nI (q + 1)) σ = some (r, σ') ∧ fx1 f_X12_factor_F fuM μ = some μ' ∧ Res k t B x (1 + 2 * d) (q + 1) p c m false σ μ r σ' μ' := by
          intro p c m σ μ h
          have hF : 10 < FU := by decide
          obtain ⟨r, σ', μ', s1, s2, s3⟩ := ih (q + 1) (by omega) fuC fuM FU (q + 1) p c m σ μ (by omega) (by omega) (by omega) (Nat.le_refl _) h
          refine ⟨r, σ', μ', s1, s2, ?_⟩
          rw [show decide ((q + 1 - (q + 1)) % 2 = 1) = false from decide_eq_false (by omega)] at s3
          exact s3
        obtain ⟨r, σ2, ν, s1, s2, s3⟩ := J_or_all (hs := 1 + 2 * d + 1) (by omega) (J_and_all (by omega) HF) (p + 1) c m σ1 μ1 P1
        have s1 : fx2 f_X6_readAny_F (fuC + 1) (nI (q + 1)) σ1 = some (r, σ2) := s1
        have eC : f_X6_readOne_2 (fx2 f_X6_readAny_F (fuC + 1)) (fx3 (f_X6_readOne_2 (fx2 f_X6_readAny_F (fuC + 1))) fu) (nI x1) (nI q) σ = if r = 0 then f_X6_readOne_69 (fx2 f_X6_readAny_F (fuC + 1)) (nI x1) (nI q) 0 σ2 else bd (f_X6_pass (41 : Int32) σ2) fun r_16 σ_17 => if r_16 = 0 then f_X6_readOne_69 (fx2 f_X6_readAny_F (fuC + 1)) (nI x1) (nI q) 0 σ_17 else f_X6_readOne_69 (fx2 f_X6_readAny_F (fuC + 1)) (nI x1) (nI q) 1 σ_17 := by
          generalize fx3 (f_X6_readOne_2 (fx2 f_X6_readAny_F (fuC + 1))) fu = kk
          unfold f_X6_readOne_2
          rw [if_neg h5q, show (33 : Int32) = nI 33 from rfl, c_pass z1 z3 (by omega) (by omega), if_neg qb, bd_some, if_pos rfl]
          unfold f_X6_readOne_22
          rw [if_neg h5q, show (40 : Int32) = nI 40 from rfl, c_pass z1 z3 (by omega) (by omega), if_pos qp, bd_some, if_neg (by decide), nI_1, ← hσ1, s1, bd_some]
          rfl
        have eM : f_X12_factor_F (fx1 f_X12_factor_F fuM) μ = bv (f_X12_must (41 : Int32) ν) fun σ_30 => f_X12_factor_101 (fx1 f_X12_factor_F fuM) σ_30 := by
          unfold f_X12_factor_F
          rw [z8, if_pos rfl, m_here z5 z7 (by omega), bd_some]
          have n33 : ¬ at_ t B p = 33 := fun w => qb (e33 ▸ w)
          have e : at_ t B p = 40 := by show at_ t B p = nI 40; rw [e40]; exact qp
          rw [if_neg n33, e, if_pos rfl]
          refine Eq.trans (m25 _ _) ?_
          rw [if_neg (by decide)]
          exact (congrArg (fun z => bv z fun σ_27 => bv (f_X12_must (41 : Int32) σ_27) fun σ_30 => f_X12_factor_101 (fx1 f_X12_factor_F fuM) σ_30) s2).trans rfl
        rw [eC, eM]
        rcases s3 with ⟨rfl, p', c', m', T, hG⟩ | ⟨rfl, b1, b2, p2, c2, b3, b4, b5, b6, b7, b8, b9⟩
        · have hG : Good k t B x (1 + 2 * d + 1 + 1) (q + 1) (p + 1) c m T T p' c' m' σ1 μ1 σ2 ν := by simpa using hG
          obtain ⟨g1, g2, g3, g4, g5, g6, g7, g8, g9, g10⟩ := hG
          obtain ⟨y1, y2, y3, y4, y5, y6, y7, y8, y9, y10, y11, y12, y13, y14, y15, y16⟩ := id g8
          obtain ⟨ξ, w1, w2, w3⟩ := m_must (c := 41) y5 y7 (by omega) (by omega) y8
          have w1 : f_X12_must (41 : Int32) ν = some ξ := w1
          rw [if_neg (by decide), show (41 : Int32) = nI 41 from rfl, c_pass y1 y3 (by omega) (by omega), show nI 41 = (41 : Int32) from rfl, w1, bv_some]
          rcases w3 with ⟨v1, v2, v3, v4⟩ | ⟨v1, v3, v4⟩
          · obtain ⟨σ3, hσ3⟩ : ∃ σ3, σ3 = sI σ2 40 2 (nI (p' + 1)) := ⟨_, rfl⟩
            have oσ3 : o40 σ2 σ3 := by rw [hσ3]; exact o40_s _ _
            have P2 : PS k t B x (p' + 1) c' m' (q + 1) σ3 ξ := PS_p g8 oσ3 w2 (by rw [hσ3]; simp (disch := omega) only [gI_ss, gI_sk, gI_sc]) v4 v3 (by omega) (by omega)
            obtain ⟨k1, k2⟩ := back (fx1 f_X12_factor_F fuM) _ _ _ _ _ P2
            rw [if_pos ⟨v1, v2⟩, bd_some, if_neg (by decide), ← hσ3]
            have G : Good k t B x (1 + 2 * (d + 1)) q p c m T T (p' + 1) c' m' σ μ σ3 (sI ξ 0 8 (nI q)) := by
              refine ⟨Fc_trans (Fc_trans (Fc_o oσ) g1 (Nat.le_refl c)) (Fc_o oσ3) (Nat.le_refl c), Fm_trans (Fm_trans (Fm_trans f1 g2 (Nat.le_refl m)) (Fm_o w2) (Nat.le_refl m)) (Fm_8 _ _) (Nat.le_refl m), by omega, g4, by omega, g6, by omega, k2, SC_f (SC_h g9 (by omega)) (fun j _ _ => by rw [oσ3.1 _ (by unfold mo; omega)]), SM_f (SM_h g10 (by omega)) (fun j _ _ => ?_)⟩
              rw [gI_sc _ _ _ _ (by omega), w2.1 1 (by omega)]
            obtain ⟨σ'', c'', u1, u2⟩ := fin_good (rc := fx2 f_X6_readAny_F (fuC + 1)) hx G (by omega) z12
            exact ⟨1, σ'', _, u1, k1, Or.inl ⟨rfl, p' + 1, c'', m', T, u2⟩⟩
          · rw [if_neg v1, bd_some, if_pos rfl]
            obtain ⟨μ', x1', x2, x3, x4⟩ := w_101 (k := k) (rc := fx1 f_X12_factor_F fuM) v4 v3
            obtain ⟨σ'', u1, u2, u3⟩ := fin_bad (t := t) (μ' := μ') (rc := fx2 f_X6_readAny_F (fuC + 1)) hx z16 z14 z2 (Fc_trans (Fc_o oσ) g1 (Nat.le_refl c)) ⟨p', c', y11, g4, by omega, y3, y4, x2, x3⟩
            exact ⟨0, σ'', μ', u1, x1', Or.inr ⟨rfl, u2, Fm_trans (Fm_trans (Fm_trans f1 g2 (Nat.le_refl m)) (Fm_o w2) (Nat.le_refl m)) (x4 m) (Nat.le_refl m), u3⟩⟩
        · rw [if_pos rfl, w_must _ b9, bv_some]
          obtain ⟨μ', x1', x2, x3, x4⟩ := w_101 (k := k) (rc := fx1 f_X12_factor_F fuM) b8 b9
          obtain ⟨σ'', u1, u2, u3⟩ := fin_bad (t := t) (μ' := μ') (rc := fx2 f_X6_readAny_F (fuC + 1)) hx z16 z14 z2 (Fc_trans (Fc_o oσ) b1 (Nat.le_refl c)) ⟨p2, c2, b3, b4, b5, b6, b7, x2, x3⟩
          exact ⟨0, σ'', μ', u1, x1', Or.inr ⟨rfl, u2, Fm_trans (Fm_trans f1 b2 (Nat.le_refl m)) (x4 m) (Nat.le_refl m), u3⟩⟩
      · -- a test
        have eC : f_X6_readOne_2 (fx2 f_X6_readAny_F fuC) (fx3 (f_X6_readOne_2 (fx2 f_X6_readAny_F fuC)) fu) (nI x1) (nI q) σ = bd (f_X6_readTest σ) fun r_20 σ_21 => f_X6_readOne_69 (fx2 f_X6_readAny_F fuC) (nI x1) (nI q) r_20 σ_21 := by
          generalize fx3 (f_X6_readOne_2 (fx2 f_X6_readAny_F fuC)) fu = kk
          unfold f_X6_readOne_2
          rw [if_neg h5q, show (33 : Int32) = nI 33 from rfl, c_pass z1 z3 (by omega) (by omega), if_neg qb, bd_some, if_pos rfl]
          unfold f_X6_readOne_22
          rw [if_neg h5q, show (40 : Int32) = nI 40 from rfl, c_pass z1 z3 (by omega) (by omega), if_neg qp, bd_some, if_pos rfl]
          rfl
        have eM : f_X12_factor_F (fx1 f_X12_factor_F fuM) μ = mTest (fx1 f_X12_factor_F fuM) μ := by
          unfold f_X12_factor_F
          rw [z8, if_pos rfl, m_here z5 z7 (by omega), bd_some]
          have n33 : ¬ at_ t B p = 33 := fun w => qb (e33 ▸ w)
          have n40 : ¬ at_ t B p = 40 := fun w => qp (e40 ▸ w)
          rw [if_neg n33, if_neg n40]
          rfl
        rw [eC, eM]
        obtain ⟨r, σ1, μ2, s1, s2, s3⟩ := J_test (fx1 f_X12_factor_F fuM) hP
        rw [s1, bd_some, s2]
        rcases s3 with ⟨rfl, p', c', m', T, t1, t2, hG⟩ | ⟨rfl, b1, b2, b3⟩
        · obtain ⟨g1, g2, g3, g4, g5, g6, g7, g8, g9, g10⟩ := hG
          obtain ⟨σ'', c'', y1, y2⟩ := fin_good (h := 1 + 2 * (d + 1)) (rc := fx2 f_X6_readAny_F fuC) hx ⟨g1, g2, g3, g4, g5, g6, g7, g8, SC_h g9 (by omega), SM_h g10 (by omega)⟩ (by omega) z12
          exact ⟨1, σ'', μ2, y1, rfl, Or.inl ⟨rfl, p', c'', m', T, y2⟩⟩
        · obtain ⟨σ'', y1, y2, y3⟩ := fin_bad (rc := fx2 f_X6_readAny_F fuC) hx z16 z14 z2 b1 b3
          exact ⟨0, σ'', μ2, y1, rfl, Or.inr ⟨rfl, y2, b2, y3⟩⟩
/-- E of a clause -/
theorem J_any {p c m : Nat} {σ μ : Mem} (hP : PS k t B x p c m 0 σ μ) : ∃ r σ' μ', f_X6_readAny (0 : Int32) σ = some (r, σ') ∧ f_X12_somex μ = some μ' ∧ Res k t B x 13 0 p c m false σ μ r σ' μ' := by
  have HF : ∀ (p c m : Nat) (σ μ : Mem), PS k t B x p c m 0 σ μ → ∃ r σ' μ', f_X6_readOne (fx2 f_X6_readAny_F 15) (nI 0) σ = some (r, σ') ∧ fx1 f_X12_factor_F 16 μ = some μ' ∧ Res k t B x 11 0 p c m false σ μ r σ' μ' := by
    intro p c m σ μ h
    have hF : 10 < FU := by decide
    obtain ⟨r, σ', μ', s1, s2, s3⟩ := J_fac 5 0 (by omega) 15 16 FU 0 p c m σ μ (by omega) (by omega) (by omega) (Nat.le_refl _) h
    exact ⟨r, σ', μ', s1, s2, s3⟩
  exact J_or_all (hs := 12) (by omega) (J_and_all (by omega) HF) p c m σ μ hP
end FAC
