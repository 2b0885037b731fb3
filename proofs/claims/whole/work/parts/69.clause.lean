/-! CLAUSES -/
def L0 (i : Nat) : Nat := [102, 109, 104, 119, 99, 101, 98].getD i 0
def L1 (i : Nat) : Nat := [102, 97, 115, 116, 109, 101, 97, 108, 104, 101, 97, 116, 119, 101, 97, 114, 99, 111, 111, 108, 101, 100, 103, 101, 98, 117, 114, 110].getD i 0
def Lw (kd i : Nat) : Nat := if i < 4 then L1 (4 * kd + i) else 32
theorem lw0 : LW 0 7 L0 := ⟨rfl, by omega, by omega, fun i hi => by
  have : ∀ q : Fin 7, chS 0 q.val = nI (L0 q.val) ∧ L0 q.val < 128 := by decide
  exact this ⟨i, hi⟩⟩
theorem lw1 : LW 1 28 L1 := ⟨rfl, by omega, by omega, fun i hi => by
  have : ∀ q : Fin 28, chS 1 q.val = nI (L1 q.val) ∧ L1 q.val < 128 := by decide
  exact this ⟨i, hi⟩⟩
theorem lww {kd : Nat} (hk : kd < 7) : LW (4 + kd) 5 (Lw kd) := by
  have e1 : ∀ q : Fin 7, lenS.getD (4 + q.val) 0 = 5 := by decide
  have e2 : ∀ q : Fin 7, ∀ i : Fin 5, chS (4 + q.val) i.val = nI (Lw q.val i.val) ∧ Lw q.val i.val < 128 := by decide
  exact ⟨e1 ⟨kd, hk⟩, by omega, by omega, fun i hi => e2 ⟨kd, hk⟩ ⟨i, hi⟩⟩
section CLA
variable {k t : Nat} {B : Nat → Nat} {x : Nat}
theorem w_spells {kd : Nat} (hkd : kd < 7) {μ : Mem} (h7 : gI μ 0 7 = 1) : ∀ n i fu : Nat, i + n = 5 → n < fu → fx2 (f_X12_spells_2 (4 + kd)) fu (nI i) μ = some μ := by
  intro n
  induction n with
  | zero =>
    intro i fu hi hf
    obtain ⟨fu, rfl⟩ : ∃ z, fu = z + 1 := ⟨fu - 1, by omega⟩
    have hi : i = 5 := by omega
    subst hi
    show f_X12_spells_2 (4 + kd) _ _ _ = _
    unfold f_X12_spells_2
    rw [len_w (lww hkd), bd_some, if_pos (by decide)]
  | succ n ih =>
    intro i fu hi hf
    obtain ⟨fu, rfl⟩ : ∃ z, fu = z + 1 := ⟨fu - 1, by omega⟩
    rw [← ih (i + 1) fu (by omega) (by omega)]
    show f_X12_spells_2 (4 + kd) (fx2 (f_X12_spells_2 (4 + kd)) fu) _ _ = _
    generalize fx2 (f_X12_spells_2 (4 + kd)) fu = kk
    unfold f_X12_spells_2
    rw [len_w (lww hkd), bd_some, if_neg (nI_ge (by omega) (by omega)), charAt_ (lww hkd) (by omega), bd_some, w_must _ h7, bv_some, lt_eq, nI_1]
theorem J_word {kd : Nat} (hkd : kd < 7) : ∀ (n i fu1 fu2 p c m : Nat) (σ μ : Mem), i + n = 5 → n < fu1 → n < fu2 → PS k t B x p c m 0 σ μ →
    ∃ σ' μ', fx2 (f_X12_spells_2 (4 + kd)) fu2 (nI i) μ = some μ' ∧ o40 σ σ' ∧ o0 μ μ' ∧ ((PS k t B x (p + n) c m 0 σ' μ' ∧ (0 < n → fx3 f_X6_readClause_15 fu1 (nI kd) (nI i) σ = bd (f_X6_readNumber σ') fun r_10 σ_11 => f_X6_readClause_62 (nI kd) r_10 σ_11)) ∨ (0 < n ∧ fx3 f_X6_readClause_15 fu1 (nI kd) (nI i) σ = some (0, σ') ∧ ∃ p', p' ≤ t ∧ gI σ' 40 2 = nI p' ∧ gI μ' 0 5 = nI p' ∧ gI μ' 0 7 = 1)) := by
  intro n
  induction n with
  | zero =>
    intro i fu1 fu2 p c m σ μ hi hf1 hf2 hP
    obtain ⟨fu2, rfl⟩ : ∃ z, fu2 = z + 1 := ⟨fu2 - 1, by omega⟩
    have hi : i = 5 := by omega
    subst hi
    refine ⟨σ, μ, ?_, o40_refl _, o0_refl _, Or.inl ⟨hP, fun h => by omega⟩⟩
    show f_X12_spells_2 (4 + kd) _ _ _ = _
    unfold f_X12_spells_2
    rw [len_w (lww hkd), bd_some, if_pos (by decide)]
  | succ n ih =>
    intro i fu1 fu2 p c m σ μ hi hf1 hf2 hP
    obtain ⟨fu1, rfl⟩ : ∃ z, fu1 = z + 1 := ⟨fu1 - 1, by omega⟩
    obtain ⟨fu2, rfl⟩ : ∃ z, fu2 = z + 1 := ⟨fu2 - 1, by omega⟩
    obtain ⟨z1, z2, z3, z4, z5, z6, z7, z8, z9, z10, z11, z12, z13, z14, z15, z16⟩ := id hP
    have t120 := z1.2.2.2.1
    have hL := ((lww hkd).2.2.2 i (by omega)).2
    obtain ⟨ν, w1, w2, w3⟩ := m_must (c := Lw kd i) z5 z7 (by omega) (by omega) z8
    have eM : fx2 (f_X12_spells_2 (4 + kd)) (fu2 + 1) (nI i) μ = fx2 (f_X12_spells_2 (4 + kd)) fu2 (nI (i + 1)) ν := by
      show f_X12_spells_2 (4 + kd) (fx2 (f_X12_spells_2 (4 + kd)) fu2) _ _ = _
      generalize fx2 (f_X12_spells_2 (4 + kd)) fu2 = kk
      unfold f_X12_spells_2
      rw [len_w (lww hkd), bd_some, if_neg (nI_ge (by omega) (by omega)), charAt_ (lww hkd) (by omega), bd_some, w1, bv_some, lt_eq, nI_1]
    rw [eM]
    have hp := c_pass (c := Lw kd i) z1 z3 (by omega) (by omega)
    -- the class's letter
    have eC : fx3 f_X6_readClause_15 (fu1 + 1) (nI kd) (nI i) σ = if p < t ∧ B p = Lw kd i then (if i = 4 then bd (f_X6_readNumber (sI σ 40 2 (nI (p + 1)))) fun r_10 σ_11 => f_X6_readClause_62 (nI kd) r_10 σ_11 else fx3 f_X6_readClause_15 fu1 (nI kd) (nI (i + 1)) (sI σ 40 2 (nI (p + 1)))) else some (0, σ) := by
      show f_X6_readClause_15 (fx3 f_X6_readClause_15 fu1) _ _ _ = _
      generalize fx3 f_X6_readClause_15 fu1 = kk
      unfold f_X6_readClause_15
      by_cases q4 : i = 4
      · subst q4
        have e32 : Lw kd 4 = 32 := rfl
        rw [e32] at hp
        rw [if_pos (by decide), show (32 : Int32) = nI 32 from rfl, hp, e32]
        by_cases q : p < t ∧ B p = 32
        · rw [if_pos q, if_pos q, bd_some, if_neg (by decide), if_pos rfl]
        · rw [if_neg q, if_neg q, bd_some, if_pos rfl]
          unfold f_X6_readClause_62
          rw [if_neg (by decide)]
      · have el : Lw kd i = L1 (4 * kd + i) := if_pos (by omega)
        rw [if_neg (show ¬ (4 : Int32) ≤ nI i from nI_ge (b := 4) (by omega) (by omega)), show (4 : Int32) = nI 4 from rfl, pk_mul, nI_add, show kd * 4 + i = 4 * kd + i by omega, charAt_ lw1 (by omega), bd_some, ← el, hp]
        by_cases q : p < t ∧ B p = Lw kd i
        · rw [if_pos q, if_pos q, bd_some, if_neg (by decide), if_neg q4, lt_eq, nI_1]
        · rw [if_neg q, if_neg q, bd_some, if_pos rfl]
    rw [eC]
    rcases w3 with ⟨v1, v2, v3, v4⟩ | ⟨v1, v3, v4⟩
    · have oσ : o40 σ (sI σ 40 2 (nI (p + 1))) := o40_s _ _
      have P1 : PS k t B x (p + 1) c m 0 (sI σ 40 2 (nI (p + 1))) ν := PS_p hP oσ w2 (gI_ss _ _ _ _) v4 v3 (by omega) (by omega)
      rw [if_pos ⟨v1, v2⟩]
      by_cases q4 : i = 4
      · have n0 : n = 0 := by omega
        subst n0
        subst q4
        obtain ⟨fu2, rfl⟩ : ∃ z, fu2 = z + 1 := ⟨fu2 - 1, by omega⟩
        refine ⟨_, ν, ?_, oσ, w2, Or.inl ⟨P1, fun _ => if_pos rfl⟩⟩
        show f_X12_spells_2 (4 + kd) _ _ _ = _
        unfold f_X12_spells_2
        rw [len_w (lww hkd), bd_some, if_pos (by decide)]
      · obtain ⟨σ', μ', u1, u2, u3, u4⟩ := ih (i + 1) fu1 fu2 (p + 1) c m _ ν (by omega) (by omega) (by omega) P1
        refine ⟨σ', μ', u1, o40_trans oσ u2, o0_trans w2 u3, ?_⟩
        rw [if_neg q4]
        rcases u4 with ⟨u5, u6⟩ | ⟨u5, u6, u7⟩
        · exact Or.inl ⟨by rw [show p + (n + 1) = p + 1 + n by omega]; exact u5, fun _ => u6 (by omega)⟩
        · exact Or.inr ⟨by omega, u6, u7⟩
    · refine ⟨σ, ν, w_spells hkd v3 n (i + 1) fu2 (by omega) (by omega), o40_refl _, w2, Or.inr ⟨by omega, ?_, p, z11, z3, v4, v3⟩⟩
      rw [if_neg v1]
end CLA
