/-! A DAY is judged -/
theorem cHO_hb {M : Nat} {Am : Nat → Mil} {σ0 σ : Mem} {k : Nat} (h : hO M Am σ0 σ) (hk : k < M) (hM : cM (gI σ0) k (Am k)) {w st y d : Nat} (hw : w < 6) (hs : st < 8) (hh : y < 10) (hd : d < 10) : ∃ σ', f_X3_hourBy (mo k) (nI w) (nI st) (nI y) (nI d) σ = some (nI (hI (Am k) w st y d), σ') ∧ hO M Am σ0 σ' := by
  obtain ⟨σ', s1, s2, s3⟩ := c_hourBy (hO_cM h hk hM) (h.2.2 k hk) hw hs hh hd
  exact ⟨σ', s1, hO_step h s2 s3⟩
theorem c_dayMost {M : Nat} {Am : Nat → Mil} {σ0 σ : Mem} {k : Nat} (h : hO M Am σ0 σ) (hk : k < M) (hM : cM (gI σ0) k (Am k)) {w y d : Nat} (hw : w < 6) (hh : y < 10) (hd : d < 10) : ∃ σ', f_X1_mostMeal (mo k) (nI w) (nI y) (nI d) σ = some (nI (mx8 (fun st => hMe (Am k) w st y d) 8), σ') ∧ hO M Am σ0 σ' := by
  obtain ⟨f, hf⟩ : ∃ f : Nat → Nat, f = fun st => hMe (Am k) w st y d := ⟨_, rfl⟩
  rw [← hf]
  have b := hM.1
  have hfb : ∀ st, f st ≤ 990 := fun st => by
    rw [hf]
    exact hMe_le b w st y d
  have hxb : ∀ i, mx8 f i ≤ 990 := fun i => mx8_le (fun j _ => hfb j)
  have key : ∀ m i fu : Nat, ∀ τ : Mem, i + m = 8 → m < fu → hO M Am σ0 τ → ∃ σ', fx6 (f_X1_mostMeal_6 (mo k)) fu (nI w) (nI y) (nI d) (nI (mx8 f i)) (nI i) τ = some (nI (mx8 f 8), σ') ∧ hO M Am σ0 σ' := by
    intro m
    induction m with
    | zero =>
      intro i fu τ hi hfu ht
      obtain ⟨fu, rfl⟩ : ∃ z, fu = z + 1 := ⟨fu - 1, by omega⟩
      have hi : i = 8 := by omega
      subst hi
      refine ⟨τ, ?_, ht⟩
      show f_X1_mostMeal_6 _ _ _ _ _ _ _ _ = _
      unfold f_X1_mostMeal_6
      exact if_pos (by decide)
    | succ m ih =>
      intro i fu τ hi hfu ht
      obtain ⟨fu, rfl⟩ : ∃ z, fu = z + 1 := ⟨fu - 1, by omega⟩
      obtain ⟨τ', s1, s2⟩ := cHO_hb ht hk hM hw (show i < 8 by omega) hh hd
      obtain ⟨σ', u1, u2⟩ := ih (i + 1) fu τ' (by omega) (by omega) s2
      refine ⟨σ', ?_, u2⟩
      have g1 := hfb i
      have g2 := hxb i
      have e2 : mx8 f (i + 1) = max (mx8 f i) (f i) := rfl
      have em : hMe (Am k) w i y d = f i := by rw [hf]
      rw [← u1, e2]
      show f_X1_mostMeal_6 (mo k) (fx6 (f_X1_mostMeal_6 (mo k)) fu) _ _ _ _ _ _ = _
      generalize fx6 (f_X1_mostMeal_6 (mo k)) fu = kk
      unfold f_X1_mostMeal_6
      rw [if_neg (show ¬ (8 : Int32) ≤ nI i from nI_ge (a := i) (b := 8) (by omega) (by omega)), s1, bd_some, c_mealOf b w i hh hd, bd_some, em, imx_nI (by omega) (by omega), lt_eq, lt_eq, nI_1]
  have hF : 8 < FU := by decide
  exact key 8 0 FU σ (by omega) hF h
theorem m_dayMost {k : Nat} {A : Mil} {J : Nat} {ch : Nat → Nat → Nat} {μ : Mem} (hQ : mI0 k A J ch μ) {w y d : Nat} (hw : w < 6) (hh : y < 10) (hd : d < 10) : ∃ μ', f_X12_mostMeal (nI w) (nI y) (nI d) μ = some (nI (mx8 (fun st => hMe A w st y d) 8), μ') ∧ mFr J μ μ' ∧ mI0 k A J ch μ' := by
  obtain ⟨f, hf⟩ : ∃ f : Nat → Nat, f = fun st => hMe A w st y d := ⟨_, rfl⟩
  rw [← hf]
  have b := hQ.2.1.1
  have hfb : ∀ st, f st ≤ 990 := fun st => by
    rw [hf]
    exact hMe_le b w st y d
  have hxb : ∀ i, mx8 f i ≤ 990 := fun i => mx8_le (fun j _ => hfb j)
  have key : ∀ m i fu : Nat, ∀ τ : Mem, i + m = 8 → m < fu → mI0 k A J ch τ → ∃ μ', fx6 f_X12_mostMeal_6 fu (nI w) (nI y) (nI d) (nI (mx8 f i)) (nI i) τ = some (nI (mx8 f 8), μ') ∧ mFr J τ μ' ∧ mI0 k A J ch μ' := by
    intro m
    induction m with
    | zero =>
      intro i fu τ hi hfu ht
      obtain ⟨fu, rfl⟩ : ∃ z, fu = z + 1 := ⟨fu - 1, by omega⟩
      have hi : i = 8 := by omega
      subst hi
      refine ⟨τ, ?_, mFr_refl _ _, ht⟩
      show f_X12_mostMeal_6 _ _ _ _ _ _ _ = _
      unfold f_X12_mostMeal_6
      exact if_pos (by decide)
    | succ m ih =>
      intro i fu τ hi hfu ht
      obtain ⟨fu, rfl⟩ : ∃ z, fu = z + 1 := ⟨fu - 1, by omega⟩
      obtain ⟨τ', s1, s2, s3, s4⟩ := m_hourPlace ht hw (show i < 8 by omega) hh hd
      obtain ⟨v6, -⟩ := m_at s3 hw (show i < 8 by omega) hh hd s4
      obtain ⟨μ', u1, u2, u3⟩ := ih (i + 1) fu τ' (by omega) (by omega) s3
      refine ⟨μ', ?_, mFr_trans s2 u2, u3⟩
      have hx := hP_lt hw (show i < 8 by omega) hh hd
      generalize hP w i y d = x at *
      have ibx : ib (nI x) 4800 = true := ib_nI hx (by omega)
      have tnx : (nI x).toNatClampNeg = x := nI_tn (by omega)
      have g1 := hfb i
      have g2 := hxb i
      have e2 : mx8 f (i + 1) = max (mx8 f i) (f i) := rfl
      have em : f i = hMe A w i y d := by rw [hf]
      rw [← u1, e2]
      show f_X12_mostMeal_6 (fx6 f_X12_mostMeal_6 fu) _ _ _ _ _ _ = _
      generalize fx6 f_X12_mostMeal_6 fu = kk
      unfold f_X12_mostMeal_6 f_X12_mostMeal_43
      rw [if_neg (show ¬ (8 : Int32) ≤ nI i from nI_ge (a := i) (b := 8) (by omega) (by omega)), s1, bd_some, ibx, gd_true, tnx, v6, lt_eq]
      by_cases qa : hAw A w i y d = true
      · have e0 : f i = 0 := em.trans (hMe_aw qa)
        have eg : gN A w i y d = -1 := if_pos qa
        rw [eg, if_pos (m1_le (by omega)), e0, Nat.max_eq_left (Nat.zero_le _), lt_eq, nI_1]
      · have eg : gN A w i y d = nI (f i) := by rw [em]; exact if_neg qa
        rw [eg]
        by_cases qq : f i ≤ mx8 f i
        · rw [if_pos (nI_le qq (by omega)), Nat.max_eq_left qq, lt_eq, nI_1]
        · rw [if_neg (nI_ge (by omega) (by omega)), Nat.max_eq_right (by omega), lt_eq, nI_1]
  have hF : 8 < FU := by decide
  exact key 8 0 FU μ (by omega) hF hQ
/-- the step of a day -/
def jJ (jd : Int32) (aw bu : Bool) (i : Nat) : Int32 := if jd = -5 then (if aw = true then nI i else if bu = true then nI i else jd) else jd
def jW (wr mo_ : Int32) (i : Nat) : Int32 := if wr = -5 then (if mo_ ≤ 0 then wr else nI i) else wr
def jC (co mo_ most : Int32) (i : Nat) : Int32 := if mo_ ≤ most then co else nI i
def jM (mo_ most : Int32) : Int32 := if mo_ ≤ most then most else mo_
theorem c_jstep {M : Nat} {Am : Nat → Mil} {σ0 τ : Mem} {k : Nat} (ht : hO M Am σ0 τ) (hk : k < M) (hM : cM (gI σ0) k (Am k)) {D i w st y d : Nat} (hi : i < D) (hD : D ≤ 10) (h2 : gI σ0 13 2 = nI D) (h14 : gI σ0 14 i = nI w) (h15 : gI σ0 15 i = nI st) (hw : w < 6) (hs : st < 8) (hh : y < 10) (hd : d < 10) (q jd fl wr co most : Int32)
    (kk : Int32 → Int32 → Int32 → Int32 → Int32 → Int32 → Int32 → Int32 → Int32 → Int32 → Mem → Option (Int32 × Mem)) : ∃ σ', f_X1_judge_30 (mo k) kk q (nI y) (nI d) jd fl wr co most (nI 1) (nI i) τ =
      kk q (nI (hHe (Am k) w st y d)) (nI (hDu (Am k) w st y d)) (jJ jd (hAw (Am k) w st y d) (hBu (Am k) w st y d) i) (fl + nI (hMe (Am k) w st y d)) (jW wr (nI (mx8 (fun st => hMe (Am k) w st y d) 8) - nI (hMe (Am k) w st y d)) i) (jC co (nI (mx8 (fun st => hMe (Am k) w st y d) 8) - nI (hMe (Am k) w st y d)) most i) (jM (nI (mx8 (fun st => hMe (Am k) w st y d) 8) - nI (hMe (Am k) w st y d)) most) (bI (!hAw (Am k) w st y d)) (nI (i + 1)) σ' ∧ hO M Am σ0 σ' := by
  have b := hM.1
  obtain ⟨τ1, s1, s2⟩ := cHO_hb ht hk hM hw hs hh hd
  obtain ⟨τ2, t1, t2⟩ := c_dayMost s2 hk hM hw hh hd
  refine ⟨τ2, ?_, t2⟩
  have k0 : gI τ 13 2 = nI D := by rw [ht.1 13 (by omega)]; exact h2
  have k1 : gI τ 14 i = nI w := by rw [ht.1 14 (by omega)]; exact h14
  have k2 : gI τ 15 i = nI st := by rw [ht.1 15 (by omega)]; exact h15
  have k3 : gI τ1 14 i = nI w := by rw [s2.1 14 (by omega)]; exact h14
  have ibi : ib (nI i) 10 = true := ib_nI (by omega) (by omega)
  have ti : (nI i).toNatClampNeg = i := nI_tn (by omega)
  obtain ⟨more, hmore⟩ : ∃ m : Int32, m = nI (mx8 (fun st => hMe (Am k) w st y d) 8) - nI (hMe (Am k) w st y d) := ⟨_, rfl⟩
  rw [← hmore]
  -- the last part
  have e171 : ∀ (x7 x8 x9 x10 x11 x12 : Int32), f_X1_judge_171 (mo k) kk q x7 x8 x9 x10 x11 x12 (nI i) (nI (hI (Am k) w st y d)) τ2 = kk q (nI (hHe (Am k) w st y d)) (nI (hDu (Am k) w st y d)) x7 x8 x9 x10 x11 x12 (nI (i + 1)) τ2 := fun x7 x8 x9 x10 x11 x12 => by
    unfold f_X1_judge_171
    rw [c_heatOf b w st hh hd, bd_some, c_dullOf b w st hh hd, bd_some, lt_eq, nI_1]
  have e156 : ∀ (x7 x8 x9 x12 : Int32), f_X1_judge_156 (mo k) kk q x7 x8 x9 co most x12 (nI i) (nI (hI (Am k) w st y d)) more τ2 = kk q (nI (hHe (Am k) w st y d)) (nI (hDu (Am k) w st y d)) x7 x8 x9 (jC co more most i) (jM more most) x12 (nI (i + 1)) τ2 := fun x7 x8 x9 x12 => by
    unfold f_X1_judge_156 jC jM
    by_cases g : more ≤ most
    · rw [if_pos g, if_pos g, if_pos g, e171]
    · rw [if_neg g, if_neg g, if_neg g, e171]
  have e107 : ∀ (x7 x12 : Int32), f_X1_judge_107 (mo k) kk q (nI y) (nI d) x7 fl wr co most x12 (nI i) (nI (hI (Am k) w st y d)) τ1 = kk q (nI (hHe (Am k) w st y d)) (nI (hDu (Am k) w st y d)) x7 (fl + nI (hMe (Am k) w st y d)) (jW wr more i) (jC co more most i) (jM more most) x12 (nI (i + 1)) τ2 := fun x7 x12 => by
    unfold f_X1_judge_107 jW
    rw [c_mealOf b w st hh hd, bd_some, lt_eq, ibi, gd_true, ti, k3, t1, bd_some, c_mealOf b w st hh hd, bd_some, lt_eq, ← hmore]
    by_cases g1 : wr = -5
    · rw [if_pos g1, if_pos g1]
      by_cases g2 : more ≤ 0
      · rw [if_pos g2, if_pos g2, e156]
      · rw [if_neg g2, if_neg g2, e156]
    · rw [if_neg g1, if_neg g1, e156]
  unfold f_X1_judge_30
  rw [k0, if_neg (nI_ge hi (by omega)), if_neg (by decide), ibi, gd_true, gd_true, ti, k1, k2, s1, bd_some, c_isAway b w st hh hd, bd_some]
  by_cases qa : hAw (Am k) w st y d = true
  · rw [qa, if_neg (by decide)]
    unfold f_X1_judge_81 f_X1_judge_103 jJ
    by_cases g1 : jd = -5
    · rw [if_pos g1, if_pos g1, if_pos rfl, if_pos rfl, e107]
      rfl
    · rw [if_neg g1, if_neg g1, e107]
      rfl
  · have qa := Bool.eq_false_iff.mpr qa
    rw [qa, if_pos (by rfl)]
    unfold f_X1_judge_81 f_X1_judge_103 jJ
    by_cases g1 : jd = -5
    · rw [if_pos g1, if_pos g1, if_neg (by decide), if_neg (by decide), c_isBurnt b w st hh hd, bd_some]
      by_cases qb : hBu (Am k) w st y d = true
      · rw [qb, if_neg (by decide), if_pos rfl, e107]
        rfl
      · rw [Bool.eq_false_iff.mpr qb, if_pos (by rfl), if_neg (by decide), e107]
        rfl
    · rw [if_neg g1, if_neg g1, e107]
      rfl
theorem m_jstep {k : Nat} {A : Mil} {J : Nat} {ch : Nat → Nat → Nat} {ν : Mem} (hQ : mI0 k A J ch ν) {D i w st y d : Nat} (hi : i < D) (hD : D ≤ 10) (h2 : gI ν 1 2 = nI D) (h14 : gI ν 1 (1017 + i) = nI w) (h15 : gI ν 1 (1027 + i) = nI st) (hw : w < 6) (hs : st < 8) (hh : y < 10) (hd : d < 10) (q jd fl wr co most : Int32)
    (kk : Int32 → Int32 → Int32 → Int32 → Int32 → Int32 → Int32 → Int32 → Int32 → Int32 → Mem → Option (Int32 × Mem)) : ∃ μ', f_X12_judged_76 kk q (nI y) (nI d) jd fl wr co most (nI 1) (nI i) ν =
      kk q (nI (hHe A w st y d)) (nI (hDu A w st y d)) (jJ jd (hAw A w st y d) (hBu A w st y d) i) (fl + nI (hMe A w st y d)) (jW wr (nI (mx8 (fun st => hMe A w st y d) 8) - nI (hMe A w st y d)) i) (jC co (nI (mx8 (fun st => hMe A w st y d) 8) - nI (hMe A w st y d)) most i) (jM (nI (mx8 (fun st => hMe A w st y d) 8) - nI (hMe A w st y d)) most) (bI (!hAw A w st y d)) (nI (i + 1)) μ' ∧ mFr J ν μ' ∧ mI0 k A J ch μ' := by
  have b := hQ.2.1.1
  obtain ⟨ν1, s1, s2, s3, s4⟩ := m_hourPlace hQ hw hs hh hd
  obtain ⟨ν2, t1, t2, t3⟩ := m_dayMost s3 hw hh hd
  refine ⟨ν2, ?_, mFr_trans s2 t2, t3⟩
  obtain ⟨v6, v7, v8, v9⟩ := m_at s3 hw hs hh hd s4
  obtain ⟨w6, w7, w8, w9⟩ := m_at t3 hw hs hh hd (t2.2.2.2 _ s4)
  have hx := hP_lt hw hs hh hd
  generalize hP w st y d = x at *
  have ibx : ib (nI x) 4800 = true := ib_nI hx (by omega)
  have tnx : (nI x).toNatClampNeg = x := nI_tn (by omega)
  have ex : (1017 : Int32) + nI i = nI (1017 + i) := nI_add 1017 i
  have ey : (1027 : Int32) + nI i = nI (1027 + i) := nI_add 1027 i
  have ib1 : ib (nI (1017 + i)) 1055 = true := ib_nI (by omega) (by omega)
  have ib2 : ib (nI (1027 + i)) 1055 = true := ib_nI (by omega) (by omega)
  have tn1 : (nI (1017 + i)).toNatClampNeg = 1017 + i := nI_tn (by omega)
  have tn2 : (nI (1027 + i)).toNatClampNeg = 1027 + i := nI_tn (by omega)
  have k3 : gI ν1 1 (1017 + i) = nI w := by rw [s2.1 1 (by omega)]; exact h14
  obtain ⟨more, hmore⟩ : ∃ m : Int32, m = nI (mx8 (fun st => hMe A w st y d) 8) - nI (hMe A w st y d) := ⟨_, rfl⟩
  rw [← hmore]
  have e268 : ∀ (x4 x5 x6 x7 x9 s0 : Int32), f_X12_judged_268 kk q x4 x5 x6 x7 x9 (nI i) (nI x) s0 ν2 = kk q (nI (hHe A w st y d)) (nI (hDu A w st y d)) x4 x5 x6 x7 s0 x9 (nI (i + 1)) ν2 := fun x4 x5 x6 x7 x9 s0 => by
    unfold f_X12_judged_268
    rw [ibx, gd_true, tnx, w7, lt_eq, gd_true, w8, lt_eq, lt_eq, nI_1]
  have e236 : ∀ (x4 x5 x9 s0 : Int32), f_X12_judged_236 kk q x4 x5 co most x9 (nI i) (nI x) more s0 ν2 = kk q (nI (hHe A w st y d)) (nI (hDu A w st y d)) x4 x5 s0 (jC co more most i) (jM more most) x9 (nI (i + 1)) ν2 := fun x4 x5 x9 s0 => by
    unfold f_X12_judged_236 f_X12_judged_252 jC jM
    by_cases g : more ≤ most
    · rw [if_pos g, if_pos g, if_pos g, if_pos g, e268]
    · rw [if_neg g, if_neg g, if_neg g, if_neg g, e268]
  have e186 : ∀ (x9 s0 : Int32), f_X12_judged_186 kk q (nI y) (nI d) fl wr co most x9 (nI i) (nI x) (nI (hMe A w st y d)) s0 ν1 = kk q (nI (hHe A w st y d)) (nI (hDu A w st y d)) s0 (fl + nI (hMe A w st y d)) (jW wr more i) (jC co more most i) (jM more most) x9 (nI (i + 1)) ν2 := fun x9 s0 => by
    unfold f_X12_judged_186 f_X12_judged_234 jW
    rw [lt_eq, ex, ib1, gd_true, tn1, k3, t1, bd_some, lt_eq, ← hmore]
    by_cases g1 : wr = -5
    · rw [if_pos g1, if_pos g1]
      by_cases g2 : more ≤ 0
      · rw [if_pos g2, if_pos g2, e236]
      · rw [if_neg g2, if_neg g2, e236]
    · rw [if_neg g1, if_neg g1, e236]
  unfold f_X12_judged_76
  rw [h2, if_neg (nI_ge hi (by omega)), if_neg (by decide), ex, ey, ib1, gd_true, ib2, gd_true, tn1, tn2, h14, h15, s1, bd_some, ibx, gd_true, tnx, v6]
  unfold f_X12_judged_137 f_X12_judged_155 f_X12_judged_179 f_X12_judged_184
  by_cases qa : hAw A w st y d = true
  · have hneg : gN A w st y d < 0 := by rw [gN_neg b]; exact qa
    have e0 : nI (hMe A w st y d) = 0 := by rw [hMe_aw qa]; rfl
    rw [e0] at e186
    rw [if_pos hneg, if_pos rfl, qa]
    unfold jJ
    by_cases g1 : jd = -5
    · rw [if_pos g1, if_pos g1, if_pos rfl, if_pos rfl, e186, e0]
      rfl
    · rw [if_neg g1, if_neg g1, e186, e0]
      rfl
  · have hneg : ¬ gN A w st y d < 0 := by rw [gN_neg b]; exact qa
    have eg : gN A w st y d = nI (hMe A w st y d) := if_neg qa
    rw [if_neg hneg, if_neg (show ¬ (1 : Int32) = 0 by decide), ibx, gd_true, tnx, v6, eg, Bool.eq_false_iff.mpr qa]
    unfold jJ
    by_cases g1 : jd = -5
    · rw [if_pos g1, if_pos g1, if_neg (show ¬ (1 : Int32) = 0 by decide), gd_true, v9, if_neg (show ¬ (false = true) by decide)]
      by_cases qb : hBu A w st y d = true
      · rw [qb, if_neg (show ¬ bI true = 0 by decide), if_pos rfl, e186]
        rfl
      · rw [Bool.eq_false_iff.mpr qb, if_pos (show bI false = 0 from rfl), if_neg (show ¬ (false = true) by decide), e186]
        rfl
    · rw [if_neg g1, if_neg g1, e186]
      rfl
theorem op_judged (n : Nat) (σ μ : Mem) (p1 : Int32) (hR : Rel (n + 1) σ μ) : ∃ (r : Int32) (σ1 μ1 : Mem), f_X11_judged p1 σ = some (r, σ1) ∧ f_X12_judged p1 μ = some (r, μ1) ∧ Rel n σ1 μ1 := by
  have hi := rel_idle n σ μ hR
  obtain ⟨hn, Am, M, hA, hH, hI, hp, hm, ha⟩ := hR
  have hM5 := hA.1
  by_cases h1 : wi p1 0 3 = 0
  · exact ⟨-1, σ, μ, by simp only [bd_some, bv_some, lt_eq, ↓reduceIte, f_X11_judged, c_within, h1], by simp only [bd_some, bv_some, lt_eq, ↓reduceIte, f_X12_judged, m_within, h1], hi⟩
  rcases led_is hA with ⟨-, l2, l3⟩ | ⟨k, hk, l5, l7, l2, l3⟩
  · exact ⟨-3, σ, μ, by simp only [bd_some, bv_some, lt_eq, ↓reduceIte, f_X11_judged, c_within, h1, l2], by simp only [bd_some, bv_some, lt_eq, ↓reduceIte, f_X12_judged, m_within, h1, l3], hi⟩
  rcases away_is hA with ⟨a1, a2⟩ | ⟨a1, a2⟩
  · obtain ⟨q, -, hq, rfl⟩ := wi_nat (lo := 0) (hi := 3) h1 (by omega) (by omega)
    obtain ⟨e1, -, -, ⟨h, hh, e7⟩, ⟨d, hd, e8⟩, -⟩ := hA.2.2.2.2.2.1
    have c72 : gI σ 7 2 = nI h := (e1 2 (by omega)).trans e7
    have c73 : gI σ 7 3 = nI d := (e1 3 (by omega)).trans e8
    have e7 : gI μ 1 7 = nI h := e7
    have e8 : gI μ 1 8 = nI d := e8
    obtain ⟨d1, D, d2, d3, d4⟩ := hA.2.2.2.2.2.2.2.1
    have d1 : gI σ 13 2 = nI D := d1.trans d3
    have d3 : gI μ 1 2 = nI D := d3
    have d4 : ∀ i, i < D → gI σ 14 i = gI μ 1 (1017 + i) ∧ gI σ 15 i = gI μ 1 (1027 + i) ∧ le_ (gI μ 1 (1017 + i)) 5 ∧ le_ (gI μ 1 (1027 + i)) 7 := d4
    have hcM := sMill_cM (hA.2.2.2.2.2.2.2.2.2 k hk)
    obtain ⟨μ1, J2, K2, u1, u2, u3, u4, u5, u6, u7, u8⟩ := m_begins hA hk l5 hm (by omega)
    have ibk : ib (nI k) 5 = true := ib_nI (by omega) (by omega)
    have tk : (nI k).toNatClampNeg = k := nI_tn (by omega)
    have stop : ∀ (x4 x7 x8 x9 x10 : Int32) (τ ν : Mem), ∃ r, f_X1_judge_191 (mo k) x4 x7 x8 x9 x10 τ = some (r, τ) ∧ f_X12_judged_292 x4 x7 x8 x9 x10 ν = some (r, ν) := by
      intro x4 x7 x8 x9 x10 τ ν
      unfold f_X1_judge_191 f_X12_judged_292
      by_cases g0 : x4 = 0
      · rw [if_pos g0, if_pos g0]; exact ⟨_, rfl, rfl⟩
      · rw [if_neg g0, if_neg g0]
        by_cases g1 : x4 = 1
        · rw [if_pos g1, if_pos g1]; exact ⟨_, rfl, rfl⟩
        · rw [if_neg g1, if_neg g1]
          by_cases g2 : x4 = 2
          · rw [if_pos g2, if_pos g2]; exact ⟨_, rfl, rfl⟩
          · rw [if_neg g2, if_neg g2]; exact ⟨_, rfl, rfl⟩
    have key : ∀ m i fu1 fu2 : Nat, ∀ (τ ν : Mem) (y x : Nat) (jd fl wr co most : Int32) (g : Bool), i + m = D → m < fu1 → m < fu2 → hO M Am σ τ → mI0 k (Am k) J2 (chN (gI μ 1)) ν → mFr J2 μ1 ν → y < 10 → x < 10 →
        ∃ r σ' μ', fx11 (f_X1_judge_30 (mo k)) fu1 (nI q) (nI y) (nI x) jd fl wr co most (bI g) (nI i) τ = some (r, σ') ∧ fx11 f_X12_judged_76 fu2 (nI q) (nI y) (nI x) jd fl wr co most (bI g) (nI i) ν = some (r, μ') ∧ hO M Am σ σ' ∧ mI0 k (Am k) J2 (chN (gI μ 1)) μ' ∧ mFr J2 μ1 μ' := by
      intro m
      induction m with
      | zero =>
        intro i fu1 fu2 τ ν y x jd fl wr co most g hiD hf1 hf2 ht hν hfr hy hx
        obtain ⟨fu1, rfl⟩ : ∃ z, fu1 = z + 1 := ⟨fu1 - 1, by omega⟩
        obtain ⟨fu2, rfl⟩ : ∃ z, fu2 = z + 1 := ⟨fu2 - 1, by omega⟩
        have k0 : gI τ 13 2 = nI D := by rw [ht.1 13 (by omega)]; exact d1
        have k1 : gI ν 1 2 = nI D := by rw [hfr.1 1 (by omega), u4 1 (by omega)]; exact d3
        obtain ⟨r, r1, r2⟩ := stop (nI q) jd fl wr co τ ν
        refine ⟨r, τ, ν, ?_, ?_, ht, hν, hfr⟩
        · rw [← r1]
          show f_X1_judge_30 (mo k) (fx11 (f_X1_judge_30 (mo k)) fu1) _ _ _ _ _ _ _ _ _ _ _ = _
          generalize fx11 (f_X1_judge_30 (mo k)) fu1 = kk
          unfold f_X1_judge_30
          rw [k0, if_pos (nI_le (by omega) (by omega))]
        · rw [← r2]
          show f_X12_judged_76 (fx11 f_X12_judged_76 fu2) _ _ _ _ _ _ _ _ _ _ _ = _
          generalize fx11 f_X12_judged_76 fu2 = kk
          unfold f_X12_judged_76
          rw [k1, if_pos (nI_le (by omega) (by omega))]
      | succ m ih =>
        intro i fu1 fu2 τ ν y x jd fl wr co most g hiD hf1 hf2 ht hν hfr hy hx
        obtain ⟨fu1, rfl⟩ : ∃ z, fu1 = z + 1 := ⟨fu1 - 1, by omega⟩
        obtain ⟨fu2, rfl⟩ : ∃ z, fu2 = z + 1 := ⟨fu2 - 1, by omega⟩
        have k0 : gI τ 13 2 = nI D := by rw [ht.1 13 (by omega)]; exact d1
        have k1 : gI ν 1 2 = nI D := by rw [hfr.1 1 (by omega), u4 1 (by omega)]; exact d3
        show ∃ r σ' μ', f_X1_judge_30 (mo k) (fx11 (f_X1_judge_30 (mo k)) fu1) _ _ _ _ _ _ _ _ _ _ _ = _ ∧ f_X12_judged_76 (fx11 f_X12_judged_76 fu2) _ _ _ _ _ _ _ _ _ _ _ = _ ∧ _
        cases g with
        | false =>
          obtain ⟨r, r1, r2⟩ := stop (nI q) jd fl wr co τ ν
          refine ⟨r, τ, ν, ?_, ?_, ht, hν, hfr⟩
          · rw [← r1]
            generalize fx11 (f_X1_judge_30 (mo k)) fu1 = kk
            unfold f_X1_judge_30
            rw [k0, if_neg (nI_ge (by omega) (by omega)), if_pos (by rfl)]
          · rw [← r2]
            generalize fx11 f_X12_judged_76 fu2 = kk
            unfold f_X12_judged_76
            rw [k1, if_neg (nI_ge (by omega) (by omega)), if_pos (by rfl)]
        | true =>
          obtain ⟨q1, q2, ⟨w, hw, q3⟩, ⟨st, hs, q4⟩⟩ := d4 i (by omega)
          obtain ⟨τ', s1, s2⟩ := c_jstep ht hk hcM (i := i) (D := D) (w := w) (st := st) (y := y) (d := x) (by omega) d2 d1 (q1.trans q3) (q2.trans q4) (by omega) (by omega) hy hx (nI q) jd fl wr co most (fx11 (f_X1_judge_30 (mo k)) fu1)
          obtain ⟨ν', t1, t2, t3⟩ := m_jstep hν (i := i) (D := D) (w := w) (st := st) (y := y) (d := x) (by omega) d2 k1 (by rw [hfr.1 1 (by omega), u4 1 (by omega)]; exact q3) (by rw [hfr.1 1 (by omega), u4 1 (by omega)]; exact q4) (by omega) (by omega) hy hx (nI q) jd fl wr co most (fx11 f_X12_judged_76 fu2)
          have hy' := hHe_le (Am k) w st hy x
          have hx' := hDu_le (Am k) w st y hx
          obtain ⟨r, σ', μ', x1, x2, x3⟩ := ih (i + 1) fu1 fu2 τ' ν' (hHe (Am k) w st y x) (hDu (Am k) w st y x) (jJ jd (hAw (Am k) w st y x) (hBu (Am k) w st y x) i) (fl + nI (hMe (Am k) w st y x)) (jW wr (nI (mx8 (fun st => hMe (Am k) w st y x) 8) - nI (hMe (Am k) w st y x)) i) (jC co (nI (mx8 (fun st => hMe (Am k) w st y x) 8) - nI (hMe (Am k) w st y x)) most i) (jM (nI (mx8 (fun st => hMe (Am k) w st y x) 8) - nI (hMe (Am k) w st y x)) most) (!hAw (Am k) w st y x) (by omega) (by omega) (by omega) s2 t3 (mFr_trans hfr t2) (by omega) (by omega)
          refine ⟨r, σ', μ', ?_, ?_, x3⟩
          · rw [← x1]
            exact s1
          · rw [← x2]
            exact t1
    have hF : D < FU := Nat.lt_of_le_of_lt d2 (by decide)
    obtain ⟨r, σ', μ', x1, x2, x3, x4, x5⟩ := key D 0 FU FU σ μ1 h d (-5) 0 (-5) (-5) 0 true (by omega) hF hF ⟨fun _ _ => rfl, fun _ _ => ⟨rfl, fun _ _ _ => rfl⟩, hH⟩ u6 (mFr_refl _ _) (by omega) (by omega)
    refine ⟨r, σ', μ', ?_, ?_, ?_⟩
    · simp only [bd_some, bv_some, lt_eq, ↓reduceIte, f_X11_judged, c_within, h1, l2, e10_, a1, l7, ibk, gd_true, tk, c72, c73]
      unfold f_X1_judge
      rw [show fx11 (f_X1_judge_30 (mo k)) FU (nI q) (nI h) (nI d) (-5) 0 (-5) (-5) 0 1 0 σ = some (r, σ') from x1, bd_some]
    · have z7 : gI μ1 1 7 = nI h := by rw [u4 1 (by omega)]; exact e7
      have z8 : gI μ1 1 8 = nI d := by rw [u4 1 (by omega)]; exact e8
      simp only [bd_some, bv_some, lt_eq, ↓reduceIte, f_X12_judged, m_within, h1, l3, e10_, a2, e01_, u1, z7, z8]
      exact x2
    · have u := x3.1
      refine rel_ask (by omega) hA hI ha (fun c hc => u c (by omega)) (u 46 (by omega)) (u 47 (by omega)) x3.2.1 x3.2.2
        (rPl_up hp (by omega) (by rw [u 41 (by omega)]) (by rw [u 41 (by omega)]) (u 42 (by omega)) (u 43 (by omega)) (u 45 (by omega)) (fun _ _ => rfl))
        ((x5.1 1 (by omega)).trans (u4 1 (by omega))) ((x5.1 2 (by omega)).trans (u4 2 (by omega))) ((x5.1 15 (by omega)).trans (u4 15 (by omega))) ((x5.2.1 3 (by omega)).trans (u5 3 (by omega) (by omega))) ((x5.2.1 35 (by omega)).trans (u5 35 (by omega) (by omega)))
        ⟨J2, K2, by omega, by omega, x4.2.2.2.1, (x5.2.1 26 (by omega)).trans u7, x4.2.2.2.2.2.2.2.1, x4.2.2.2.2.2.2.2.2, fun i hi => by rw [x5.1 11 (by omega)]; exact u8 i hi⟩
  · exact ⟨-3, σ, μ, by simp only [bd_some, bv_some, lt_eq, ↓reduceIte, f_X11_judged, c_within, h1, l2, e10_, a1], by simp only [bd_some, bv_some, lt_eq, ↓reduceIte, f_X12_judged, m_within, h1, l3, e10_, a2], hi⟩
