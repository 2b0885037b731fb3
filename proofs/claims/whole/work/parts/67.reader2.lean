/-! LISTS OF PARTS -/
theorem Good_app {k t : Nat} {B : Nat → Nat} {x h hs q p c m p1 c1 m1 p2 c2 m2 : Nat} {T1 T2 : (Nat → Int32) → Bool} {σ μ σ1 μ1 σ2 μ2 σ3 μ3 : Mem} (isOr : Bool) (hG : Good k t B x h q p c m T1 T1 p1 c1 m1 σ μ σ1 μ1) (a : o40 σ1 σ2) (b : o0 μ1 μ2) (hG2 : Good k t B x hs q (p1 + 1) c1 m1 T2 T2 p2 c2 m2 σ2 μ2 σ3 μ3) (hh : hs + 1 ≤ h) (h20 : h ≤ 20) :
    Good k t B x h q p c m (fun s => if isOr = true then T1 s || T2 s else T1 s && T2 s) (fun s => if isOr = true then T1 s || T2 s else T1 s && T2 s) p2 (c2 + 1) (m2 + 1) σ μ (sI (sI σ3 (mo k + 4) c2 (if isOr = true then -3 else -2)) (mo k) 7 (nI (c2 + 1))) (sI (sI μ3 1 (151 + 140 * k + m2) (if isOr = true then -3 else -2)) 1 (146 + k) (nI (m2 + 1))) := by
  obtain ⟨g1, g2, g3, g4, g5, g6, g7, g8, g9, g10⟩ := hG
  obtain ⟨e1, e2, e3, e4, e5, e6, e7, e8, e9, e10⟩ := hG2
  have b1 := g8.2.2.2.2.2.2.2.2.2.2.2.1
  have b2 := g8.2.2.2.2.2.2.2.2.2.2.2.2.1
  have b4 := e8.2.2.2.2.2.2.2.2.2.2.2.2.2.2.1
  have b5 := e8.2.2.2.2.2.2.2.2.2.2.1
  have b6 := e8.1.2.2.2.1
  have f1 : Fc k c1 σ1 σ3 := Fc_trans (Fc_o a) e1 (Nat.le_refl _)
  have f2 : Fm k m1 μ1 μ3 := Fm_trans (Fm_o b) e2 (Nat.le_refl _)
  refine ⟨Fc_trans (Fc_trans g1 f1 g4) (Fc_code σ3 _ _ (Nat.le_refl c2)) (by omega), Fm_trans (Fm_trans g2 f2 g6) (Fm_emit μ3 _ _ (Nat.le_refl m2) (by omega)) (by omega), by omega, by omega, by omega, by omega, by omega, PS_code e8 (by omega) (by omega) _ _, ?_, ?_⟩
  · have s1 : SC (mo k) (gI (sI (sI σ3 (mo k + 4) c2 (if isOr = true then -3 else -2)) (mo k) 7 (nI (c2 + 1))) (mo k + 4)) c c1 T1 h := SC_f g9 (fun j _ hj => by rw [gI_sc _ _ _ _ (by omega), gI_sk _ _ _ (by omega)]; exact f1.2.2.2 j hj)
    have s2 : SC (mo k) (gI (sI (sI σ3 (mo k + 4) c2 (if isOr = true then -3 else -2)) (mo k) 7 (nI (c2 + 1))) (mo k + 4)) c1 c2 T2 hs := SC_f e9 (fun j _ hj => by rw [gI_sc _ _ _ _ (by omega), gI_sk _ _ _ (by omega)])
    have s3 : gI (sI (sI σ3 (mo k + 4) c2 (if isOr = true then -3 else -2)) (mo k) 7 (nI (c2 + 1))) (mo k + 4) c2 = if isOr = true then -3 else -2 := by rw [gI_sc _ _ _ _ (by omega), gI_ss]
    cases isOr with
    | true => exact SC_or s1 s2 (s3.trans (if_pos rfl)) (Nat.le_refl _) hh h20
    | false => exact SC_and s1 s2 (s3.trans (if_neg (by decide))) (Nat.le_refl _) hh h20
  · refine SM_bin (c := 151 + 140 * k + m2) isOr (SM_f g10 (fun j h1 hj => ?_)) (SM_f e10 (fun j h1 hj => ?_)) ?_ (Nat.le_refl _) hh
    · rw [gI_sk _ _ _ (by omega), gI_sk _ _ _ (by omega)]
      exact f2.2.2 j (by omega) (by omega)
    · rw [gI_sk _ _ _ (by omega), gI_sk _ _ _ (by omega)]
    · rw [gI_sk _ _ _ (by omega), gI_ss]
section J_and
variable {k t : Nat} {B : Nat → Nat} {x : Nat}
theorem J_and_loop {R : Int32 → Mem → Option (Int32 × Mem)} {rc : Mem → Option Mem} {q hs : Nat} (hs20 : hs + 1 ≤ 20) (HF : ∀ (p c m : Nat) (σ μ : Mem), PS k t B x p c m q σ μ → ∃ r σ' μ', f_X6_readOne R (nI q) σ = some (r, σ') ∧ rc μ = some μ' ∧ Res k t B x hs q p c m false σ μ r σ' μ') {p c m : Nat} {σ μ : Mem} : ∀ (n fu1 fu2 i p1 c1 m1 : Nat) (T : (Nat → Int32) → Bool) (σ1 μ1 : Mem), t - p1 ≤ n → n + 1 < fu1 → n + 1 < fu2 → i ≤ p1 → Good k t B x (hs + 1) q p c m T T p1 c1 m1 σ μ σ1 μ1 →
    ∃ r σ' μ', fx4 (f_X6_readAll_8 R) fu1 (nI q) (1 : Int32) (nI i) σ1 = some (r, σ') ∧ fx1 (f_X12_every_4 rc) fu2 μ1 = some μ' ∧ Res k t B x (hs + 1) q p c m false σ μ r σ' μ' := by
  intro n
  induction n with
  | zero =>
    intro fu1 fu2 i p1 c1 m1 T σ1 μ1 hn hf1 hf2 hi hG
    obtain ⟨fu1, rfl⟩ : ∃ z, fu1 = z + 1 := ⟨fu1 - 1, by omega⟩
    obtain ⟨fu2, rfl⟩ : ∃ z, fu2 = z + 1 := ⟨fu2 - 1, by omega⟩
    obtain ⟨z1, z2, z3, z4, z5, z6, z7, z8, z9, z10, z11, z12, z13, z14, z15, z16⟩ := id hG.2.2.2.2.2.2.2.1
    have t120 := z1.2.2.2.1
    have nq : ¬ (p1 < t ∧ B p1 = 38) := fun z => by omega
    refine ⟨1, σ1, μ1, ?_, ?_, Or.inl ⟨rfl, p1, c1, m1, T, by simpa using hG⟩⟩
    · show f_X6_readAll_8 R (fx4 (f_X6_readAll_8 R) fu1) _ _ _ _ = _
      generalize fx4 (f_X6_readAll_8 R) fu1 = kk
      unfold f_X6_readAll_8
      by_cases q9 : 120 ≤ i
      · rw [if_pos (show (120 : Int32) ≤ nI i from nI_le (a := 120) q9 (by omega))]
        rfl
      · rw [if_neg (show ¬ (120 : Int32) ≤ nI i from nI_ge (b := 120) (by omega) (by omega)), if_neg (by decide), show (38 : Int32) = nI 38 from rfl, c_pass z1 z3 (by omega) (by omega), if_neg nq, bd_some, if_pos rfl]
        rfl
    · show f_X12_every_4 rc (fx1 (f_X12_every_4 rc) fu2) _ = _
      generalize fx1 (f_X12_every_4 rc) fu2 = kk
      unfold f_X12_every_4
      rw [z8, if_pos rfl, m_here z5 z7 (by omega), bd_some]
      have e := at_eq (p := p1) z5.2.2.2 (show 38 < 256 by omega)
      rw [if_neg (show ¬ at_ t B p1 = (38 : Int32) from fun w => nq (e ▸ w))]
  | succ n ih =>
    intro fu1 fu2 i p1 c1 m1 T σ1 μ1 hn hf1 hf2 hi hG
    obtain ⟨fu1, rfl⟩ : ∃ z, fu1 = z + 1 := ⟨fu1 - 1, by omega⟩
    obtain ⟨fu2, rfl⟩ : ∃ z, fu2 = z + 1 := ⟨fu2 - 1, by omega⟩
    have hP := hG.2.2.2.2.2.2.2.1
    obtain ⟨z1, z2, z3, z4, z5, z6, z7, z8, z9, z10, z11, z12, z13, z14, z15, z16⟩ := id hP
    have t120 := z1.2.2.2.1
    have e := at_eq (p := p1) z5.2.2.2 (show 38 < 256 by omega)
    show ∃ r σ' μ', f_X6_readAll_8 R (fx4 (f_X6_readAll_8 R) fu1) _ _ _ _ = _ ∧ f_X12_every_4 rc (fx1 (f_X12_every_4 rc) fu2) _ = _ ∧ _
    by_cases nq : p1 < t ∧ B p1 = 38
    · obtain ⟨σ2, hσ2⟩ : ∃ σ2, σ2 = sI σ1 40 2 (nI (p1 + 1)) := ⟨_, rfl⟩
      obtain ⟨μ2, hμ2⟩ : ∃ μ2, μ2 = sI μ1 0 5 (nI (p1 + 1)) := ⟨_, rfl⟩
      have oσ : o40 σ1 σ2 := by rw [hσ2]; exact o40_s _ _
      have oμ : o0 μ1 μ2 := by rw [hμ2]; exact o0_5 _ _
      have P2 : PS k t B x (p1 + 1) c1 m1 q σ2 μ2 := PS_p hP oσ oμ (by rw [hσ2]; simp (disch := omega) only [gI_ss, gI_sk, gI_sc]) (by rw [hμ2]; simp (disch := omega) only [gI_ss, gI_sk, gI_sc]) (by rw [hμ2]; simp (disch := omega) only [gI_ss, gI_sk, gI_sc]; exact z8) (by omega) (by omega)
      obtain ⟨r, σ3, μ3, s1, s2, s3⟩ := HF (p1 + 1) c1 m1 σ2 μ2 P2
      have eC : f_X6_readAll_8 R (fx4 (f_X6_readAll_8 R) fu1) (nI q) (1 : Int32) (nI i) σ1 = gd (im (gI σ3 40 1)) (bv (f_X3_appendCode ((gI σ3 40 1).toNatClampNeg) (-2 : Int32) σ3) fun σ_18 => fx4 (f_X6_readAll_8 R) fu1 (nI q) r (nI (i + 1)) σ_18) := by
        generalize fx4 (f_X6_readAll_8 R) fu1 = kk
        unfold f_X6_readAll_8
        rw [if_neg (show ¬ (120 : Int32) ≤ nI i from nI_ge (b := 120) (by omega) (by omega)), if_neg (by decide), show (38 : Int32) = nI 38 from rfl, c_pass z1 z3 (by omega) (by omega), if_pos nq, bd_some, if_neg (by decide), ← hσ2, s1, bd_some, nI_1]
        rfl
      have eM : f_X12_every_4 rc (fx1 (f_X12_every_4 rc) fu2) μ1 = bv (f_X12_emits (-2 : Int32) μ3) fun σ_14 => fx1 (f_X12_every_4 rc) fu2 σ_14 := by
        generalize fx1 (f_X12_every_4 rc) fu2 = kk
        unfold f_X12_every_4
        rw [z8, if_pos rfl, m_here z5 z7 (by omega), bd_some, if_pos (show at_ t B p1 = (38 : Int32) from by show at_ t B p1 = nI 38; rw [e]; exact nq), z7, nI_1, lt_eq, ← hμ2, s2, bv_some]
      rw [eC, eM]
      rcases s3 with ⟨rfl, p2, c2, m2, T2, hG2⟩ | ⟨rfl, b1, b2, p2, c2, b3, b4, b5, b6, b7, b8, b9⟩
      · have hG2 : Good k t B x hs q (p1 + 1) c1 m1 T2 T2 p2 c2 m2 σ2 μ2 σ3 μ3 := by simpa using hG2
        have G3 := Good_app false hG oσ oμ hG2 (Nat.le_refl _) hs20
        obtain ⟨y1, y2, y3, y4, y5, y6, y7, y8, y9, y10, y11, y12, y13, y14, y15, y16⟩ := id hG2.2.2.2.2.2.2.2.1
        have k1 := hG2.2.2.1
        have k2 := hG2.2.2.2.2.1
        have k3 := hG2.2.2.2.2.2.2.1
        obtain ⟨r, σ', μ', u1, u2, u3⟩ := ih fu1 fu2 (i + 1) p2 (c2 + 1) (m2 + 1) _ _ _ (by omega) (by omega) (by omega) (by omega) G3
        refine ⟨r, σ', μ', ?_, ?_, u3⟩
        · rw [← u1, y2, im_mo z14, gd_true, tn_mo z14, c_code _ y4 (by omega), bv_some]
          rfl
        · rw [← u2, m_emit _ z14 y6 y8 y10 (by omega), bv_some]
          rfl
      · obtain ⟨σ4, c4, d1, d2, d3, d4, d5, d6⟩ := c_codeX (k := k) (-2 : Int32) b7 b5
        have l40 : gI σ3 40 1 = nI (mo k) := by rw [b1.2.1 1 (by omega), oσ.2 1 (by omega)]; exact z2
        have f1 : Fc k c σ σ4 := Fc_trans (Fc_trans hG.1 (Fc_trans (Fc_o oσ) b1 (Nat.le_refl c1)) hG.2.2.2.1) d2 (by have := hG.2.2.2.1; omega)
        have f2 : Fm k m μ μ3 := Fm_trans hG.2.1 (Fm_trans (Fm_o oμ) b2 (Nat.le_refl m1)) hG.2.2.2.2.2.1
        refine ⟨0, σ4, μ3, ?_, ?_, Or.inr ⟨rfl, f1, f2, p2, c4, b3, by have := hG.2.2.2.1; omega, d6, d3.trans b6, d4, b8, b9⟩⟩
        · obtain ⟨fu1, rfl⟩ : ∃ z, fu1 = z + 1 := ⟨fu1 - 1, by omega⟩
          rw [l40, im_mo z14, gd_true, tn_mo z14, d1, bv_some]
          show f_X6_readAll_8 R (fx4 (f_X6_readAll_8 R) fu1) _ _ _ _ = _
          generalize fx4 (f_X6_readAll_8 R) fu1 = kk
          unfold f_X6_readAll_8
          by_cases q9 : 120 ≤ i + 1
          · rw [if_pos (show (120 : Int32) ≤ nI (i + 1) from nI_le (a := 120) q9 (by omega))]
            rfl
          · rw [if_neg (show ¬ (120 : Int32) ≤ nI (i + 1) from nI_ge (b := 120) (by omega) (by omega)), if_pos rfl]
            rfl
        · obtain ⟨fu2, rfl⟩ : ∃ z, fu2 = z + 1 := ⟨fu2 - 1, by omega⟩
          rw [w_emit _ b9, bv_some]
          show f_X12_every_4 rc (fx1 (f_X12_every_4 rc) fu2) _ = _
          generalize fx1 (f_X12_every_4 rc) fu2 = kk
          unfold f_X12_every_4
          rw [b9, if_neg (by decide)]
    · refine ⟨1, σ1, μ1, ?_, ?_, Or.inl ⟨rfl, p1, c1, m1, T, by simpa using hG⟩⟩
      · generalize fx4 (f_X6_readAll_8 R) fu1 = kk
        unfold f_X6_readAll_8
        by_cases q9 : 120 ≤ i
        · rw [if_pos (show (120 : Int32) ≤ nI i from nI_le (a := 120) q9 (by omega))]
          rfl
        · rw [if_neg (show ¬ (120 : Int32) ≤ nI i from nI_ge (b := 120) (by omega) (by omega)), if_neg (by decide), show (38 : Int32) = nI 38 from rfl, c_pass z1 z3 (by omega) (by omega), if_neg nq, bd_some, if_pos rfl]
          rfl
      · generalize fx1 (f_X12_every_4 rc) fu2 = kk
        unfold f_X12_every_4
        rw [z8, if_pos rfl, m_here z5 z7 (by omega), bd_some]
        rw [if_neg (show ¬ at_ t B p1 = (38 : Int32) from fun w => nq (e ▸ w))]
theorem J_and_all {R : Int32 → Mem → Option (Int32 × Mem)} {rc : Mem → Option Mem} {q hs : Nat} (hs20 : hs + 1 ≤ 20) (HF : ∀ (p c m : Nat) (σ μ : Mem), PS k t B x p c m q σ μ → ∃ r σ' μ', f_X6_readOne R (nI q) σ = some (r, σ') ∧ rc μ = some μ' ∧ Res k t B x hs q p c m false σ μ r σ' μ') : ∀ (p c m : Nat) (σ μ : Mem), PS k t B x p c m q σ μ → ∃ r σ' μ', f_X6_readAll R (nI q) σ = some (r, σ') ∧ f_X12_every rc μ = some μ' ∧ Res k t B x (hs + 1) q p c m false σ μ r σ' μ' := by
  intro p c m σ μ hP
  have t120 := hP.1.2.2.2.1
  obtain ⟨r, σ1, μ1, s1, s2, s3⟩ := HF p c m σ μ hP
  have hF : 300 < FU := by decide
  have eC : f_X6_readAll R (nI q) σ = fx4 (f_X6_readAll_8 R) FU (nI q) r (nI 0) σ1 := by
    unfold f_X6_readAll
    rw [s1, bd_some]
    rfl
  have eM : f_X12_every rc μ = fx1 (f_X12_every_4 rc) FU μ1 := by
    unfold f_X12_every
    rw [s2, bv_some]
  rw [eC, eM]
  rcases s3 with ⟨rfl, p1, c1, m1, T, hG⟩ | ⟨rfl, b1, b2, p2, c2, b3, b4, b5, b6, b7, b8, b9⟩
  · have hG : Good k t B x hs q p c m T T p1 c1 m1 σ μ σ1 μ1 := by simpa using hG
    obtain ⟨g1, g2, g3, g4, g5, g6, g7, g8, g9, g10⟩ := hG
    exact J_and_loop hs20 HF t FU FU 0 p1 c1 m1 T σ1 μ1 (by omega) (by omega) (by omega) (by omega) ⟨g1, g2, g3, g4, g5, g6, g7, g8, SC_h g9 (by omega), SM_h g10 (by omega)⟩
  · refine ⟨0, σ1, μ1, ?_, ?_, Or.inr ⟨rfl, b1, b2, p2, c2, b3, b4, b5, b6, b7, b8, b9⟩⟩
    · have e : ∀ fu : Nat, fx4 (f_X6_readAll_8 R) (fu + 1) (nI q) (0 : Int32) (nI 0) σ1 = some (0, σ1) := fun fu => by
        show f_X6_readAll_8 R (fx4 (f_X6_readAll_8 R) fu) _ _ _ _ = _
        generalize fx4 (f_X6_readAll_8 R) fu = kk
        unfold f_X6_readAll_8
        rw [if_neg (by decide), if_pos rfl]
        rfl
      exact e 5999
    · have e : ∀ fu : Nat, fx1 (f_X12_every_4 rc) (fu + 1) μ1 = some μ1 := fun fu => by
        show f_X12_every_4 rc (fx1 (f_X12_every_4 rc) fu) _ = _
        generalize fx1 (f_X12_every_4 rc) fu = kk
        unfold f_X12_every_4
        rw [b9, if_neg (by decide)]
      exact e 5999
end J_and
section J_or
variable {k t : Nat} {B : Nat → Nat} {x : Nat}
theorem J_or_loop {R : Int32 → Mem → Option (Int32 × Mem)} {rc : Mem → Option Mem} {q hs : Nat} (hs20 : hs + 1 ≤ 20) (HF : ∀ (p c m : Nat) (σ μ : Mem), PS k t B x p c m q σ μ → ∃ r σ' μ', f_X6_readAll R (nI q) σ = some (r, σ') ∧ f_X12_every rc μ = some μ' ∧ Res k t B x hs q p c m false σ μ r σ' μ') {p c m : Nat} {σ μ : Mem} : ∀ (n fu1 fu2 i p1 c1 m1 : Nat) (T : (Nat → Int32) → Bool) (σ1 μ1 : Mem), t - p1 ≤ n → n + 1 < fu1 → n + 1 < fu2 → i ≤ p1 → Good k t B x (hs + 1) q p c m T T p1 c1 m1 σ μ σ1 μ1 →
    ∃ r σ' μ', fx4 (f_X6_readAny_8 R) fu1 (nI q) (1 : Int32) (nI i) σ1 = some (r, σ') ∧ fx1 (f_X12_some_4 rc) fu2 μ1 = some μ' ∧ Res k t B x (hs + 1) q p c m false σ μ r σ' μ' := by
  intro n
  induction n with
  | zero =>
    intro fu1 fu2 i p1 c1 m1 T σ1 μ1 hn hf1 hf2 hi hG
    obtain ⟨fu1, rfl⟩ : ∃ z, fu1 = z + 1 := ⟨fu1 - 1, by omega⟩
    obtain ⟨fu2, rfl⟩ : ∃ z, fu2 = z + 1 := ⟨fu2 - 1, by omega⟩
    obtain ⟨z1, z2, z3, z4, z5, z6, z7, z8, z9, z10, z11, z12, z13, z14, z15, z16⟩ := id hG.2.2.2.2.2.2.2.1
    have t120 := z1.2.2.2.1
    have nq : ¬ (p1 < t ∧ B p1 = 124) := fun z => by omega
    refine ⟨1, σ1, μ1, ?_, ?_, Or.inl ⟨rfl, p1, c1, m1, T, by simpa using hG⟩⟩
    · show f_X6_readAny_8 R (fx4 (f_X6_readAny_8 R) fu1) _ _ _ _ = _
      generalize fx4 (f_X6_readAny_8 R) fu1 = kk
      unfold f_X6_readAny_8
      by_cases q9 : 120 ≤ i
      · rw [if_pos (show (120 : Int32) ≤ nI i from nI_le (a := 120) q9 (by omega))]
        rfl
      · rw [if_neg (show ¬ (120 : Int32) ≤ nI i from nI_ge (b := 120) (by omega) (by omega)), if_neg (by decide), show (124 : Int32) = nI 124 from rfl, c_pass z1 z3 (by omega) (by omega), if_neg nq, bd_some, if_pos rfl]
        rfl
    · show f_X12_some_4 rc (fx1 (f_X12_some_4 rc) fu2) _ = _
      generalize fx1 (f_X12_some_4 rc) fu2 = kk
      unfold f_X12_some_4
      rw [z8, if_pos rfl, m_here z5 z7 (by omega), bd_some]
      have e := at_eq (p := p1) z5.2.2.2 (show 124 < 256 by omega)
      rw [if_neg (show ¬ at_ t B p1 = (124 : Int32) from fun w => nq (e ▸ w))]
  | succ n ih =>
    intro fu1 fu2 i p1 c1 m1 T σ1 μ1 hn hf1 hf2 hi hG
    obtain ⟨fu1, rfl⟩ : ∃ z, fu1 = z + 1 := ⟨fu1 - 1, by omega⟩
    obtain ⟨fu2, rfl⟩ : ∃ z, fu2 = z + 1 := ⟨fu2 - 1, by omega⟩
    have hP := hG.2.2.2.2.2.2.2.1
    obtain ⟨z1, z2, z3, z4, z5, z6, z7, z8, z9, z10, z11, z12, z13, z14, z15, z16⟩ := id hP
    have t120 := z1.2.2.2.1
    have e := at_eq (p := p1) z5.2.2.2 (show 124 < 256 by omega)
    show ∃ r σ' μ', f_X6_readAny_8 R (fx4 (f_X6_readAny_8 R) fu1) _ _ _ _ = _ ∧ f_X12_some_4 rc (fx1 (f_X12_some_4 rc) fu2) _ = _ ∧ _
    by_cases nq : p1 < t ∧ B p1 = 124
    · obtain ⟨σ2, hσ2⟩ : ∃ σ2, σ2 = sI σ1 40 2 (nI (p1 + 1)) := ⟨_, rfl⟩
      obtain ⟨μ2, hμ2⟩ : ∃ μ2, μ2 = sI μ1 0 5 (nI (p1 + 1)) := ⟨_, rfl⟩
      have oσ : o40 σ1 σ2 := by rw [hσ2]; exact o40_s _ _
      have oμ : o0 μ1 μ2 := by rw [hμ2]; exact o0_5 _ _
      have P2 : PS k t B x (p1 + 1) c1 m1 q σ2 μ2 := PS_p hP oσ oμ (by rw [hσ2]; simp (disch := omega) only [gI_ss, gI_sk, gI_sc]) (by rw [hμ2]; simp (disch := omega) only [gI_ss, gI_sk, gI_sc]) (by rw [hμ2]; simp (disch := omega) only [gI_ss, gI_sk, gI_sc]; exact z8) (by omega) (by omega)
      obtain ⟨r, σ3, μ3, s1, s2, s3⟩ := HF (p1 + 1) c1 m1 σ2 μ2 P2
      have eC : f_X6_readAny_8 R (fx4 (f_X6_readAny_8 R) fu1) (nI q) (1 : Int32) (nI i) σ1 = gd (im (gI σ3 40 1)) (bv (f_X3_appendCode ((gI σ3 40 1).toNatClampNeg) (-3 : Int32) σ3) fun σ_18 => fx4 (f_X6_readAny_8 R) fu1 (nI q) r (nI (i + 1)) σ_18) := by
        generalize fx4 (f_X6_readAny_8 R) fu1 = kk
        unfold f_X6_readAny_8
        rw [if_neg (show ¬ (120 : Int32) ≤ nI i from nI_ge (b := 120) (by omega) (by omega)), if_neg (by decide), show (124 : Int32) = nI 124 from rfl, c_pass z1 z3 (by omega) (by omega), if_pos nq, bd_some, if_neg (by decide), ← hσ2, s1, bd_some, nI_1]
        rfl
      have eM : f_X12_some_4 rc (fx1 (f_X12_some_4 rc) fu2) μ1 = bv (f_X12_emits (-3 : Int32) μ3) fun σ_14 => fx1 (f_X12_some_4 rc) fu2 σ_14 := by
        generalize fx1 (f_X12_some_4 rc) fu2 = kk
        unfold f_X12_some_4
        rw [z8, if_pos rfl, m_here z5 z7 (by omega), bd_some, if_pos (show at_ t B p1 = (124 : Int32) from by show at_ t B p1 = nI 124; rw [e]; exact nq), z7, nI_1, lt_eq, ← hμ2, s2, bv_some]
      rw [eC, eM]
      rcases s3 with ⟨rfl, p2, c2, m2, T2, hG2⟩ | ⟨rfl, b1, b2, p2, c2, b3, b4, b5, b6, b7, b8, b9⟩
      · have hG2 : Good k t B x hs q (p1 + 1) c1 m1 T2 T2 p2 c2 m2 σ2 μ2 σ3 μ3 := by simpa using hG2
        have G3 := Good_app true hG oσ oμ hG2 (Nat.le_refl _) hs20
        obtain ⟨y1, y2, y3, y4, y5, y6, y7, y8, y9, y10, y11, y12, y13, y14, y15, y16⟩ := id hG2.2.2.2.2.2.2.2.1
        have k1 := hG2.2.2.1
        have k2 := hG2.2.2.2.2.1
        have k3 := hG2.2.2.2.2.2.2.1
        obtain ⟨r, σ', μ', u1, u2, u3⟩ := ih fu1 fu2 (i + 1) p2 (c2 + 1) (m2 + 1) _ _ _ (by omega) (by omega) (by omega) (by omega) G3
        refine ⟨r, σ', μ', ?_, ?_, u3⟩
        · rw [← u1, y2, im_mo z14, gd_true, tn_mo z14, c_code _ y4 (by omega), bv_some]
          rfl
        · rw [← u2, m_emit _ z14 y6 y8 y10 (by omega), bv_some]
          rfl
      · obtain ⟨σ4, c4, d1, d2, d3, d4, d5, d6⟩ := c_codeX (k := k) (-3 : Int32) b7 b5
        have l40 : gI σ3 40 1 = nI (mo k) := by rw [b1.2.1 1 (by omega), oσ.2 1 (by omega)]; exact z2
        have f1 : Fc k c σ σ4 := Fc_trans (Fc_trans hG.1 (Fc_trans (Fc_o oσ) b1 (Nat.le_refl c1)) hG.2.2.2.1) d2 (by have := hG.2.2.2.1; omega)
        have f2 : Fm k m μ μ3 := Fm_trans hG.2.1 (Fm_trans (Fm_o oμ) b2 (Nat.le_refl m1)) hG.2.2.2.2.2.1
        refine ⟨0, σ4, μ3, ?_, ?_, Or.inr ⟨rfl, f1, f2, p2, c4, b3, by have := hG.2.2.2.1; omega, d6, d3.trans b6, d4, b8, b9⟩⟩
        · obtain ⟨fu1, rfl⟩ : ∃ z, fu1 = z + 1 := ⟨fu1 - 1, by omega⟩
          rw [l40, im_mo z14, gd_true, tn_mo z14, d1, bv_some]
          show f_X6_readAny_8 R (fx4 (f_X6_readAny_8 R) fu1) _ _ _ _ = _
          generalize fx4 (f_X6_readAny_8 R) fu1 = kk
          unfold f_X6_readAny_8
          by_cases q9 : 120 ≤ i + 1
          · rw [if_pos (show (120 : Int32) ≤ nI (i + 1) from nI_le (a := 120) q9 (by omega))]
            rfl
          · rw [if_neg (show ¬ (120 : Int32) ≤ nI (i + 1) from nI_ge (b := 120) (by omega) (by omega)), if_pos rfl]
            rfl
        · obtain ⟨fu2, rfl⟩ : ∃ z, fu2 = z + 1 := ⟨fu2 - 1, by omega⟩
          rw [w_emit _ b9, bv_some]
          show f_X12_some_4 rc (fx1 (f_X12_some_4 rc) fu2) _ = _
          generalize fx1 (f_X12_some_4 rc) fu2 = kk
          unfold f_X12_some_4
          rw [b9, if_neg (by decide)]
    · refine ⟨1, σ1, μ1, ?_, ?_, Or.inl ⟨rfl, p1, c1, m1, T, by simpa using hG⟩⟩
      · generalize fx4 (f_X6_readAny_8 R) fu1 = kk
        unfold f_X6_readAny_8
        by_cases q9 : 120 ≤ i
        · rw [if_pos (show (120 : Int32) ≤ nI i from nI_le (a := 120) q9 (by omega))]
          rfl
        · rw [if_neg (show ¬ (120 : Int32) ≤ nI i from nI_ge (b := 120) (by omega) (by omega)), if_neg (by decide), show (124 : Int32) = nI 124 from rfl, c_pass z1 z3 (by omega) (by omega), if_neg nq, bd_some, if_pos rfl]
          rfl
      · generalize fx1 (f_X12_some_4 rc) fu2 = kk
        unfold f_X12_some_4
        rw [z8, if_pos rfl, m_here z5 z7 (by omega), bd_some]
        rw [if_neg (show ¬ at_ t B p1 = (124 : Int32) from fun w => nq (e ▸ w))]
theorem J_or_all {R : Int32 → Mem → Option (Int32 × Mem)} {rc : Mem → Option Mem} {q hs : Nat} (hs20 : hs + 1 ≤ 20) (HF : ∀ (p c m : Nat) (σ μ : Mem), PS k t B x p c m q σ μ → ∃ r σ' μ', f_X6_readAll R (nI q) σ = some (r, σ') ∧ f_X12_every rc μ = some μ' ∧ Res k t B x hs q p c m false σ μ r σ' μ') : ∀ (p c m : Nat) (σ μ : Mem), PS k t B x p c m q σ μ → ∃ r σ' μ', f_X6_readAny_F R (nI q) σ = some (r, σ') ∧ f_X12_some rc μ = some μ' ∧ Res k t B x (hs + 1) q p c m false σ μ r σ' μ' := by
  intro p c m σ μ hP
  have t120 := hP.1.2.2.2.1
  obtain ⟨r, σ1, μ1, s1, s2, s3⟩ := HF p c m σ μ hP
  have hF : 300 < FU := by decide
  have eC : f_X6_readAny_F R (nI q) σ = fx4 (f_X6_readAny_8 R) FU (nI q) r (nI 0) σ1 := by
    unfold f_X6_readAny_F
    rw [s1, bd_some]
    rfl
  have eM : f_X12_some rc μ = fx1 (f_X12_some_4 rc) FU μ1 := by
    unfold f_X12_some
    rw [s2, bv_some]
  rw [eC, eM]
  rcases s3 with ⟨rfl, p1, c1, m1, T, hG⟩ | ⟨rfl, b1, b2, p2, c2, b3, b4, b5, b6, b7, b8, b9⟩
  · have hG : Good k t B x hs q p c m T T p1 c1 m1 σ μ σ1 μ1 := by simpa using hG
    obtain ⟨g1, g2, g3, g4, g5, g6, g7, g8, g9, g10⟩ := hG
    exact J_or_loop hs20 HF t FU FU 0 p1 c1 m1 T σ1 μ1 (by omega) (by omega) (by omega) (by omega) ⟨g1, g2, g3, g4, g5, g6, g7, g8, SC_h g9 (by omega), SM_h g10 (by omega)⟩
  · refine ⟨0, σ1, μ1, ?_, ?_, Or.inr ⟨rfl, b1, b2, p2, c2, b3, b4, b5, b6, b7, b8, b9⟩⟩
    · have e : ∀ fu : Nat, fx4 (f_X6_readAny_8 R) (fu + 1) (nI q) (0 : Int32) (nI 0) σ1 = some (0, σ1) := fun fu => by
        show f_X6_readAny_8 R (fx4 (f_X6_readAny_8 R) fu) _ _ _ _ = _
        generalize fx4 (f_X6_readAny_8 R) fu = kk
        unfold f_X6_readAny_8
        rw [if_neg (by decide), if_pos rfl]
        rfl
      exact e 5999
    · have e : ∀ fu : Nat, fx1 (f_X12_some_4 rc) (fu + 1) μ1 = some μ1 := fun fu => by
        show f_X12_some_4 rc (fx1 (f_X12_some_4 rc) fu) _ = _
        generalize fx1 (f_X12_some_4 rc) fu = kk
        unfold f_X12_some_4
        rw [b9, if_neg (by decide)]
      exact e 5999
end J_or
