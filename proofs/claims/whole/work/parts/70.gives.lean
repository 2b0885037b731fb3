/-! WHAT THE CLAUSES OF A WORD GIVE TOGETHER: clause by clause -/
theorem holds_T {o c c' h : Nat} {f : Nat → Int32} {T : (Nat → Int32) → Bool} (H : SC o f c c' T h) (hc : c' ≤ 120) (τ : Mem) (hf : ∀ j, c ≤ j → j < c' → gI τ (o + 4) j = f j) : f_X3_holds o (nI c) (nI c') τ = some (nI (bn (T (nm6 (gI τ (o + 5))))), τ) := by
  have hF : 121 < FU := by decide
  obtain ⟨g, hg⟩ : ∃ g, FU = g + 1 + (c' - c) := ⟨FU - (c' - c) - 1, by omega⟩
  unfold f_X3_holds
  rw [hg]
  refine (H.2 τ (g + 1) 0 c' hf (Nat.le_refl _) hc (Nat.two_pow_pos _)).trans ?_
  show f_X3_holds_5 o (fx4 (f_X3_holds_5 o) g) _ _ _ _ = _
  generalize fx4 (f_X3_holds_5 o) g = kk
  unfold f_X3_holds_5
  rw [if_pos (Int32.le_refl _)]
  cases T (nm6 (gI τ (o + 5)))
  · rw [if_neg (by decide)]
    rfl
  · rw [if_pos (by decide)]
    rfl
def addG (G : Nat → (Nat → Int32) → Nat) (kd0 n : Nat) (T : (Nat → Int32) → Bool) : Nat → (Nat → Int32) → Nat := fun kd sg => G kd sg + if kd = kd0 ∧ T sg = true then n else 0
/-- the class's clauses up to the ec-th give G -/
def CT (k ec c : Nat) (a : Nat → Nat → Int32) (G : Nat → (Nat → Int32) → Nat) : Prop := ∀ (τ : Mem) (fu s N kd : Nat), kd < 4 → ec ≤ N → N ≤ 10 → gI τ (mo k) 6 = nI N → (∀ i, 1 ≤ i → i ≤ 3 → ∀ j, j < ec → gI τ (mo k + i) j = a (mo k + i) j) → (∀ j, j < c → gI τ (mo k + 4) j = a (mo k + 4) j) → fx4 (f_X3_together_4 (mo k)) (fu + ec) (nI kd) (nI s) (nI 0) τ = fx4 (f_X3_together_4 (mo k)) fu (nI kd) (nI (s + G kd (nm6 (gI τ (mo k + 5))))) (nI ec) τ
theorem CT_0 (k : Nat) (a : Nat → Nat → Int32) : CT k 0 0 a (fun _ _ => 0) := by
  intro τ fu s N kd _ _ _ _ _ _
  rfl
theorem CT_c {k ec c : Nat} {a a' : Nat → Nat → Int32} {G : Nat → (Nat → Int32) → Nat} (H : CT k ec c a G) (h1 : ∀ i, 1 ≤ i → i ≤ 3 → ∀ j, j < ec → a' (mo k + i) j = a (mo k + i) j) (h2 : ∀ j, j < c → a' (mo k + 4) j = a (mo k + 4) j) : CT k ec c a' G := fun τ fu s N kd p1 p2 p3 p4 p5 p6 => H τ fu s N kd p1 p2 p3 p4 (fun i u v j w => (p5 i u v j w).trans (h1 i u v j w)) (fun j w => (p6 j w).trans (h2 j w))
theorem CT_next {k ec c c' h kd0 n : Nat} {a a' : Nat → Nat → Int32} {G : Nat → (Nat → Int32) → Nat} {T : (Nat → Int32) → Bool} (H : CT k ec c a G) (hS : SC (mo k) (a' (mo k + 4)) c c' T h) (hc' : c' ≤ 120) (hk0 : kd0 < 7)
    (h0 : ec = 0 → c = 0) (h3 : 0 < ec → a (mo k + 3) (ec - 1) = nI c) (e1 : ∀ i, 1 ≤ i → i ≤ 3 → ∀ j, j < ec → a' (mo k + i) j = a (mo k + i) j) (e2 : ∀ j, j < c → a' (mo k + 4) j = a (mo k + 4) j) (f1 : a' (mo k + 1) ec = nI kd0) (f2 : a' (mo k + 2) ec = nI n) (f3 : a' (mo k + 3) ec = nI c') : CT k (ec + 1) c' a' (addG G kd0 n T) := by
  intro τ fu s N kd hkd hN hN2 h6 hr h4
  have hcc := hS.1
  rw [show fu + (ec + 1) = (fu + 1) + ec by omega, H τ (fu + 1) s N kd hkd (by omega) hN2 h6 (fun i u v j w => (hr i u v j (by omega)).trans (e1 i u v j w)) (fun j w => (h4 j (by omega)).trans (e2 j w))]
  have r1 : gI τ (mo k + 1) ec = nI kd0 := (hr 1 (by omega) (by omega) ec (by omega)).trans f1
  have r2 : gI τ (mo k + 2) ec = nI n := (hr 2 (by omega) (by omega) ec (by omega)).trans f2
  have r3 : gI τ (mo k + 3) ec = nI c' := (hr 3 (by omega) (by omega) ec (by omega)).trans f3
  generalize hs1 : s + G kd (nm6 (gI τ (mo k + 5))) = s1
  have hg : s + addG G kd0 n T kd (nm6 (gI τ (mo k + 5))) = s1 + if kd = kd0 ∧ T (nm6 (gI τ (mo k + 5))) = true then n else 0 := by
    unfold addG
    omega
  rw [hg]
  show f_X3_together_4 (mo k) (fx4 (f_X3_together_4 (mo k)) fu) _ _ _ _ = _
  generalize fx4 (f_X3_together_4 (mo k)) fu = kk
  have g60 : ∀ z : Nat, f_X3_together_60 (mo k) kk (nI kd) (nI z) (nI ec) τ = kk (nI kd) (nI z) (nI (ec + 1)) τ := fun z => by
    unfold f_X3_together_60
    rw [lt_eq, nI_1]
  unfold f_X3_together_4
  rw [h6, if_neg (nI_ge (by omega) (by omega)), ib_nI (by omega) (by omega), gd_true, nI_tn (by omega), r1]
  by_cases qk : kd0 = kd
  · rw [if_pos (by rw [qk])]
    have g39 : f_X3_together_39 (mo k) kk (nI kd) (nI s1) (nI ec) (nI c) τ = kk (nI kd) (nI (s1 + if kd = kd0 ∧ T (nm6 (gI τ (mo k + 5))) = true then n else 0)) (nI (ec + 1)) τ := by
      unfold f_X3_together_39
      rw [ib_nI (by omega) (by omega), gd_true, nI_tn (by omega), r3, holds_T hS hc' τ (fun j _ w => h4 j w), bd_some]
      cases T (nm6 (gI τ (mo k + 5)))
      · rw [if_pos (by rfl), g60, if_neg (fun z => by cases z.2)]
        rfl
      · rw [if_neg (by decide), gd_true, lt_eq, r2, nI_add, g60, if_pos ⟨qk.symm, rfl⟩]
    by_cases q0 : ec = 0
    · have c0 := h0 q0
      rw [if_pos (by rw [q0]; rfl), ← g39, c0]
      rfl
    · have e3 : gI τ (mo k + 3) (ec - 1) = nI c := (hr 3 (by omega) (by omega) _ (by omega)).trans ((e1 3 (by omega) (by omega) _ (by omega)).trans (h3 (by omega)))
      rw [if_neg (by rw [show (0 : Int32) = nI 0 from rfl, nIeq (by omega) (by omega)]; exact q0), show (1 : Int32) = nI 1 from rfl, nIsub (by omega), ib_nI (by omega) (by omega), gd_true, nI_tn (by omega), e3, g39]
  · rw [if_neg (by rw [nIeq (by omega) (by omega)]; exact qk), g60, if_neg (fun z => qk z.1.symm)]
    rfl
theorem CT_gives {k ec c : Nat} {a : Nat → Nat → Int32} {G : Nat → (Nat → Int32) → Nat} (H : CT k ec c a G) (hec : ec ≤ 10) (h6 : a (mo k) 6 = nI ec) : cGives a (mo k) G := by
  intro τ h1 h2 kd hkd
  have hF : 121 < FU := by decide
  obtain ⟨g, hg⟩ : ∃ g, FU = g + 1 + ec := ⟨FU - ec - 1, by omega⟩
  have h6' : gI τ (mo k) 6 = nI ec := (h1 6 (by omega) (by omega)).trans h6
  unfold f_X3_together
  rw [hg]
  refine (H τ (g + 1) 0 ec kd hkd (Nat.le_refl _) hec h6' (fun i u v j _ => by rw [h2 i u (by omega)]) (fun j _ => by rw [h2 4 (by omega) (by omega)])).trans ?_
  rw [Nat.zero_add]
  show f_X3_together_4 (mo k) (fx4 (f_X3_together_4 (mo k)) g) _ _ _ _ = _
  generalize fx4 (f_X3_together_4 (mo k)) g = kk
  unfold f_X3_together_4
  rw [h6', if_pos (Int32.le_refl _)]
theorem endV : ∀ kd : Fin 4, ∀ n : Fin 100, (((-10 : Int32) - ((100 : Int32) * nI kd.val)) - nI n.val) < 0 ∧ ¬ (((-10 : Int32) - ((100 : Int32) * nI kd.val)) - nI n.val) = (-1 : Int32) ∧ (((-10 : Int32) - ((100 : Int32) * nI kd.val)) - nI n.val) ≤ (-10 : Int32) ∧ (-10 : Int32) - (((-10 : Int32) - ((100 : Int32) * nI kd.val)) - nI n.val) = nI (100 * kd.val + n.val) := by decide +kernel
/-- the model's clauses of m ints give G -/
def MT (k m : Nat) (b : Nat → Int32) (G : Nat → (Nat → Int32) → Nat) : Prop := ∀ (τ : Mem) (fu s kd m' : Nat), kd < 4 → k < 5 → gI τ 1 (146 + k) = nI m' → m ≤ m' → m' ≤ 140 → (∀ j, 151 + 140 * k ≤ j → j < 151 + 140 * k + m → gI τ 1 j = b j) → ∃ τ', fx6 f_X12_together_16 (fu + m) (nI k) (nI kd) (nI 0) (nI s) (nI (151 + 140 * k)) τ = fx6 f_X12_together_16 fu (nI k) (nI kd) (nI 0) (nI (s + G kd (nm6 (gI τ 3)))) (nI (151 + 140 * k + m)) τ' ∧ (∀ c, c ≠ 4 → gI τ' c = gI τ c) ∧ τ'.2 = τ.2
theorem MT_0 (k : Nat) (b : Nat → Int32) : MT k 0 b (fun _ _ => 0) := fun τ _ _ _ _ _ _ _ _ _ _ => ⟨τ, rfl, fun _ _ => rfl, rfl⟩
theorem MT_m {k m : Nat} {b b' : Nat → Int32} {G : Nat → (Nat → Int32) → Nat} (H : MT k m b G) (e : ∀ j, 151 + 140 * k ≤ j → j < 151 + 140 * k + m → b' j = b j) : MT k m b' G := fun τ fu s kd m' p1 p2 p3 p4 p5 p6 => H τ fu s kd m' p1 p2 p3 p4 p5 (fun j u v => (p6 j u v).trans (e j u v))
theorem MT_next {k m m1 h kd0 n : Nat} {b b' : Nat → Int32} {G : Nat → (Nat → Int32) → Nat} {T : (Nat → Int32) → Bool} (H : MT k m b G) (hS : SM k b' (151 + 140 * k + m) (151 + 140 * k + m1) T h) (hh : h ≤ 60) (hk0 : kd0 < 4) (hn : n < 100) (e : ∀ j, 151 + 140 * k ≤ j → j < 151 + 140 * k + m → b' j = b j) (f : b' (151 + 140 * k + m1) = ((-10 : Int32) - ((100 : Int32) * nI kd0)) - nI n) : MT k (m1 + 1) b' (addG G kd0 n T) := by
  intro τ fu s kd m' hkd hk h6 hm hm2 hr
  have hmm := hS.1
  obtain ⟨τ1, a1, a2, a3⟩ := H τ ((fu + 1) + (m1 - m)) s kd m' hkd hk h6 (by omega) hm2 (fun j u v => (hr j u (by omega)).trans (e j u v))
  have t1 : gI τ1 1 = gI τ 1 := a2 1 (by omega)
  have t3 : gI τ1 3 = gI τ 3 := a2 3 (by omega)
  generalize hs1 : s + G kd (nm6 (gI τ 3)) = s1 at a1
  obtain ⟨τ2, b1, b2, -, b4, b5⟩ := hS.2 τ1 (fu + 1) 0 m' (nI kd) (nI s1) (fun j u v => by rw [t1]; exact hr j (by omega) (by omega)) (by rw [t1]; exact h6) (by omega) hm2 hk (by omega)
  rw [show 151 + 140 * k + m1 - (151 + 140 * k + m) = m1 - m by omega] at b1
  refine ⟨τ2, ?_, fun c hc => (b4 c hc).trans (a2 c hc), b5.trans a3⟩
  rw [show fu + (m1 + 1) = fu + 1 + (m1 - m) + m by omega, a1, b1]
  have hg : s + addG G kd0 n T kd (nm6 (gI τ 3)) = s1 + if kd = kd0 ∧ T (nm6 (gI τ 3)) = true then n else 0 := by
    unfold addG
    omega
  rw [hg]
  rw [t3] at b2
  have u1 : gI τ2 1 = gI τ 1 := (b4 1 (by omega)).trans t1
  obtain ⟨v1, v2, v3, v4⟩ := endV ⟨kd0, hk0⟩ ⟨n, hn⟩
  show f_X12_together_16 (fx6 f_X12_together_16 fu) _ _ _ _ _ _ = _
  generalize fx6 f_X12_together_16 fu = kk
  obtain ⟨g1, g2, g3, g4, g5⟩ := m_head (τ := τ2) hk (by rw [u1]; exact h6) (show 151 + 140 * k + m1 < 151 + 140 * k + m' by omega) hm2 kk (nI kd) (nI (0 + 1)) (nI s1)
  have ea : gI τ2 1 (151 + 140 * k + m1) = ((-10 : Int32) - ((100 : Int32) * nI kd0)) - nI n := by
    rw [u1]
    exact (hr _ (by omega) (by omega)).trans f
  unfold f_X12_together_16
  rw [g1, gd_true, g2, if_neg g3, g4, gd_true, g5, ea, lt_eq, if_pos v1, if_neg v2, if_pos v3, v4, lt_eq, show ib (0 : Int32) 64 = true from by decide, gd_true, show (0 : Int32).toNatClampNeg = 0 from rfl, b2]
  unfold f_X12_together_299 f_X12_together_300 f_X12_together_303
  rw [show (100 : Int32) = nI 100 from rfl, nIdiv (by omega) (by omega) (by omega), nIrem (by omega) (by omega) (by omega), show (100 * kd0 + n) / 100 = kd0 by omega, show (100 * kd0 + n) % 100 = n by omega, Int32.add_zero]
  cases T (nm6 (gI τ 3))
  · rw [if_pos (by rfl), if_neg (fun z => by cases z.2), lt_eq, lt_eq, nI_1]
    rfl
  · rw [if_neg (by decide)]
    by_cases qk : kd0 = kd
    · rw [if_pos (by rw [qk]), if_pos ⟨qk.symm, rfl⟩, lt_eq, lt_eq, nI_1, nI_add]
      rfl
    · rw [if_neg (by rw [nIeq (by omega) (by omega)]; exact qk), if_neg (fun z => qk z.1.symm), lt_eq, lt_eq, nI_1]
      rfl
theorem MT_gives {k m : Nat} {b : Nat → Int32} {G : Nat → (Nat → Int32) → Nat} (H : MT k m b G) (hk : k < 5) (hm : m ≤ 140) (h6 : b (146 + k) = nI m) : mGives b k G := by
  intro τ h1 h2 kd hkd
  have hF : 141 < FU := by decide
  obtain ⟨g, hg⟩ : ∃ g, FU = g + 1 + m := ⟨FU - m - 1, by omega⟩
  have h6' : gI τ 1 (146 + k) = nI m := h1.trans h6
  obtain ⟨τ', a1, a2, a3⟩ := H τ (g + 1) 0 kd m hkd hk h6' (Nat.le_refl _) hm (fun j u v => by
    obtain ⟨i, rfl⟩ : ∃ i, j = 151 + 140 * k + i := ⟨j - (151 + 140 * k), by omega⟩
    exact h2 i (by omega))
  refine ⟨τ', ?_, a2, a3⟩
  unfold f_X12_together
  rw [show (151 : Int32) + (140 : Int32) * nI k = nI (151 + 140 * k) from by simp only [li, pk_mul, nI_add], lt_eq, hg]
  refine a1.trans ?_
  rw [Nat.zero_add]
  have u1 : gI τ' 1 (146 + k) = nI m := by
    rw [show gI τ' 1 = gI τ 1 from a2 1 (by omega)]
    exact h6'
  show f_X12_together_16 (fx6 f_X12_together_16 g) _ _ _ _ _ _ = _
  generalize fx6 f_X12_together_16 g = kk
  unfold f_X12_together_16
  rw [show (146 : Int32) + nI k = nI (146 + k) from nI_add 146 k, ib_nI (by omega) (by omega), gd_true, nI_tn (by omega), u1, show (151 : Int32) + (140 : Int32) * nI k = nI (151 + 140 * k) from by simp only [li, pk_mul, nI_add], nI_add, if_pos (Int32.le_refl _)]
