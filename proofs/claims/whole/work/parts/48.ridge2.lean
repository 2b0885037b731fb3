/-! the class's ridge -/
def aM (Am : Nat → Mil) (a b c : Nat) : Nat → Mil := fun p => if p = 0 then Am a else if p = 1 then Am b else Am c
theorem c_ridge {M : Nat} {Am : Nat → Mil} {σ0 : Mem} {a b c w q : Nat} (hM5 : M ≤ 5) (hM : ∀ k, k < M → cM (gI σ0) k (Am k)) (ha : a < M) (hb : b < M) (hc : c < M) (hw : w < 6) (hq : q < 2) (h0 : hO M Am σ0 σ0) :
    ∃ σ', fx10 f_X11_ridge_58 FU (nI a) (nI b) (nI c) (nI w) (nI q) (-3) (-5) 0 0 σ0 = some (if q = 0 then eC (fN (rB (aM Am a b c) w) 64) else if fN (rB (aM Am a b c) w) 64 = none then 1 else eA (aR (aM Am a b c) w) (fN (rB (aM Am a b c) w) 64) - mo2 (aR (aM Am a b c) w) (-3) 64, σ') ∧ hO M Am σ0 σ' := by
  obtain ⟨A, hA⟩ : ∃ A, A = aM Am a b c := ⟨_, rfl⟩
  rw [← hA]
  have A0 : A 0 = Am a := by rw [hA]; rfl
  have A1 : A 1 = Am b := by rw [hA]; rfl
  have A2 : A 2 = Am c := by rw [hA]; rfl
  have key : ∀ m i fu : Nat, ∀ τ : Mem, i + m = 64 → m < fu → hO M Am σ0 τ → ∃ σ', fx10 f_X11_ridge_58 fu (nI a) (nI b) (nI c) (nI w) (nI q) (mo2 (aR A w) (-3) i) (eC (fN (rB A w) i)) (eA (aR A w) (fN (rB A w) i)) (nI i) τ = some (if q = 0 then eC (fN (rB A w) 64) else if fN (rB A w) 64 = none then 1 else eA (aR A w) (fN (rB A w) 64) - mo2 (aR A w) (-3) 64, σ') ∧ hO M Am σ0 σ' := by
    intro m
    induction m with
    | zero =>
      intro i fu τ hi hf ht
      obtain ⟨fu, rfl⟩ : ∃ z, fu = z + 1 := ⟨fu - 1, by omega⟩
      have hi : i = 64 := by omega
      subst hi
      refine ⟨τ, ?_, ht⟩
      show f_X11_ridge_58 _ _ _ _ _ _ _ _ _ _ _ = _
      unfold f_X11_ridge_58
      rw [if_pos (by decide)]
      by_cases q0 : q = 0
      · subst q0
        rw [if_pos (by rfl), if_pos rfl]
      · rw [if_neg (show ¬ nI q = 0 from nI_ne0 (by omega) (by omega)), if_neg q0]
        cases hf2 : fN (rB A w) 64 with
        | none => rfl
        | some k =>
          have hk := fN_lt _ _ _ hf2
          rw [if_neg (show ¬ eC (some k) = -5 from nI_m5 (by omega)), if_neg (by simp)]
    | succ m ih =>
      intro i fu τ hi hf ht
      obtain ⟨fu, rfl⟩ : ∃ z, fu = z + 1 := ⟨fu - 1, by omega⟩
      have d0 : wdA w i 0 = w := Nat.sub_zero w
      have d1 : wdA w i 1 = w - i / 16 := rfl
      have d2 : wdA w i 2 = w - (i / 16 + i / 4 % 4) := rfl
      have l0 : clA i 0 = i / 16 := rfl
      have l1 : clA i 1 = i / 4 % 4 := rfl
      have l2 : clA i 2 = i % 4 := rfl
      obtain ⟨τ1, t1, t1'⟩ := c_ground ht hM5 ha (hM a ha) (w := wdA w i 0) (c := clA i 0) (by omega) (by omega)
      obtain ⟨τ2, t2, t2'⟩ := c_ground t1' hM5 hb (hM b hb) (w := wdA w i 1) (c := clA i 1) (by omega) (by omega)
      obtain ⟨τ3, t3, t3'⟩ := c_ground t2' hM5 hc (hM c hc) (w := wdA w i 2) (c := clA i 2) (by omega) (by omega)
      obtain ⟨τ4, t4, t4'⟩ := c_rests t3' hM5 ha (hM a ha) (w := wdA w i 0) (c := clA i 0) (by omega) (by omega)
      obtain ⟨τ5, t5, t5'⟩ := c_rests t4' hM5 hb (hM b hb) (w := wdA w i 1) (c := clA i 1) (by omega) (by omega)
      obtain ⟨τ6, t6, t6'⟩ := c_rests t5' hM5 hc (hM c hc) (w := wdA w i 2) (c := clA i 2) (by omega) (by omega)
      have ea : tR (Am a) (wdA w i 0) (clA i 0) + tR (Am b) (wdA w i 1) (clA i 1) + tR (Am c) (wdA w i 2) (clA i 2) = aR A w i := by
        rw [← A0, ← A1, ← A2]
        rfl
      have em : imx (mo2 (aR A w) (-3) i) (aR A w i) = mo2 (aR A w) (-3) (i + 1) := rfl
      have b0 : rstN (Am a) (wdA w i 0) (clA i 0) 4 = rC A w i 0 := by rw [← A0]; rfl
      have b1 : rstN (Am b) (wdA w i 1) (clA i 1) 4 = rC A w i 1 := by rw [← A1]; rfl
      have b2 : rstN (Am c) (wdA w i 2) (clA i 2) 4 = rC A w i 2 := by rw [← A2]; rfl
      have eb : rB A w i = (rC A w i 0 && (rC A w i 1 && rC A w i 2)) := rfl
      rw [b0] at t4
      rw [b1] at t5
      rw [b2] at t6
      have n0 : nI i / nI 16 = nI (clA i 0) := by rw [l0]; exact nIdiv (by omega) (by omega) (by omega)
      have n1 : irm (nI i / nI 4) (nI 4) = nI (clA i 1) := by rw [l1, nIdiv (by omega) (by omega) (by omega)]; exact nIrem (by omega) (by omega) (by omega)
      have n2 : irm (nI i) (nI 4) = nI (clA i 2) := by rw [l2]; exact nIrem (by omega) (by omega) (by omega)
      have n3 : imx (nI 0) (nI w - nI (clA i 0)) = nI (wdA w i 1) := by rw [l0, d1]; exact imx0_sub (by omega) (by omega)
      have n4 : imx (nI 0) (nI w - nI (clA i 0) - nI (clA i 1)) = nI (wdA w i 2) := by rw [l0, l1, d2]; exact imx0_sub2 (by omega) (by omega)
      have hgo : ∀ ξ : Mem, hO M Am σ0 ξ → ∀ x7 x8 : Int32, x7 = eC (fN (rB A w) (i + 1)) → x8 = eA (aR A w) (fN (rB A w) (i + 1)) → ∃ σ', f_X11_ridge_214 (fx10 f_X11_ridge_58 fu) (nI a) (nI b) (nI c) (nI w) (nI q) (mo2 (aR A w) (-3) (i + 1)) x7 x8 (nI i) ξ = some (if q = 0 then eC (fN (rB A w) 64) else if fN (rB A w) 64 = none then 1 else eA (aR A w) (fN (rB A w) 64) - mo2 (aR A w) (-3) 64, σ') ∧ hO M Am σ0 σ' := by
        intro ξ hξ x7 x8 h7 h8
        obtain ⟨σ', u1, u2⟩ := ih (i + 1) fu ξ (by omega) (by omega) hξ
        refine ⟨σ', ?_, u2⟩
        rw [← u1, h7, h8]
        unfold f_X11_ridge_214
        rw [lt_eq, nI_1]
      -- the start of a turn
      have start : f_X11_ridge_58 (fx10 f_X11_ridge_58 fu) (nI a) (nI b) (nI c) (nI w) (nI q) (mo2 (aR A w) (-3) i) (eC (fN (rB A w) i)) (eA (aR A w) (fN (rB A w) i)) (nI i) τ =
          if eC (fN (rB A w) i) = -5 then
            (bd (f_X11_rests (nI a) (nI (wdA w i 0)) (nI (clA i 0)) τ3) fun r1 ξ1 => if r1 = 0 then f_X11_ridge_214 (fx10 f_X11_ridge_58 fu) (nI a) (nI b) (nI c) (nI w) (nI q) (mo2 (aR A w) (-3) (i + 1)) (eC (fN (rB A w) i)) (eA (aR A w) (fN (rB A w) i)) (nI i) ξ1 else
              bd (f_X11_rests (nI b) (nI (wdA w i 1)) (nI (clA i 1)) ξ1) fun r2 ξ2 => if r2 = 0 then f_X11_ridge_214 (fx10 f_X11_ridge_58 fu) (nI a) (nI b) (nI c) (nI w) (nI q) (mo2 (aR A w) (-3) (i + 1)) (eC (fN (rB A w) i)) (eA (aR A w) (fN (rB A w) i)) (nI i) ξ2 else
                bd (f_X11_rests (nI c) (nI (wdA w i 2)) (nI (clA i 2)) ξ2) fun r3 ξ3 => if r3 = 0 then f_X11_ridge_214 (fx10 f_X11_ridge_58 fu) (nI a) (nI b) (nI c) (nI w) (nI q) (mo2 (aR A w) (-3) (i + 1)) (eC (fN (rB A w) i)) (eA (aR A w) (fN (rB A w) i)) (nI i) ξ3 else
                  f_X11_ridge_214 (fx10 f_X11_ridge_58 fu) (nI a) (nI b) (nI c) (nI w) (nI q) (mo2 (aR A w) (-3) (i + 1)) (((100 : Int32) * nI (clA i 0) + (10 : Int32) * nI (clA i 1)) + nI (clA i 2)) (aR A w i) (nI i) ξ3)
          else f_X11_ridge_214 (fx10 f_X11_ridge_58 fu) (nI a) (nI b) (nI c) (nI w) (nI q) (mo2 (aR A w) (-3) (i + 1)) (eC (fN (rB A w) i)) (eA (aR A w) (fN (rB A w) i)) (nI i) τ3 := by
        generalize fx10 f_X11_ridge_58 fu = kk
        rw [← em, ← ea]
        rw [d0] at t1 ⊢
        have t1 : f_X11_ground (nI a) (nI w) (nI (clA i 0)) τ = some (tR (Am a) (wdA w i 0) (clA i 0), τ1) := by rw [d0]; exact t1
        rw [d0] at t1
        unfold f_X11_ridge_58
        rw [if_neg (show ¬ (64 : Int32) ≤ nI i from nI_ge (a := i) (b := 64) (by omega) (by omega))]
        simp only [lt_eq]
        rw [show (16 : Int32) = nI 16 from rfl, show (4 : Int32) = nI 4 from rfl, n0, n1, n2]
        rw [show imx (0 : Int32) (nI w - nI (clA i 0)) = nI (wdA w i 1) from n3, show imx (0 : Int32) (nI w - nI (clA i 0) - nI (clA i 1)) = nI (wdA w i 2) from n4]
        rw [t1, bd_some, t2, bd_some, t3, bd_some]
      show ∃ σ', f_X11_ridge_58 (fx10 f_X11_ridge_58 fu) _ _ _ _ _ _ _ _ _ _ = _ ∧ _
      rw [start]
      cases hf2 : fN (rB A w) i with
      | some k =>
        have hk := fN_lt _ _ _ hf2
        rw [if_neg (show ¬ eC (some k) = -5 from nI_m5 (by omega))]
        have h := fN_s hf2
        exact hgo τ3 t3' _ _ (by rw [h]) (by rw [h])
      | none =>
        rw [if_pos (show eC none = -5 from rfl), t4, bd_some]
        by_cases q0 : rC A w i 0 = true
        · rw [q0, if_neg (by decide), t5, bd_some]
          by_cases q1 : rC A w i 1 = true
          · rw [q1, if_neg (by decide), t6, bd_some]
            by_cases q2 : rC A w i 2 = true
            · rw [q2, if_neg (by decide)]
              have h := fN_n1 hf2 (show rB A w i = true by rw [eb, q0, q1, q2]; rfl)
              refine hgo τ6 t6' _ _ ?_ (by rw [h]; rfl)
              rw [h]
              show _ = nI (100 * (i / 16) + 10 * (i / 4 % 4) + i % 4)
              rw [show (100 : Int32) = nI 100 from rfl, show (10 : Int32) = nI 10 from rfl, pk_mul, pk_mul, nI_add, nI_add, l0, l1, l2]
            · have h := fN_n0 hf2 (show rB A w i = false by rw [eb, q0, q1, Bool.eq_false_iff.mpr q2]; rfl)
              rw [Bool.eq_false_iff.mpr q2, if_pos (by rfl)]
              exact hgo τ6 t6' _ _ (by rw [h]) (by rw [h])
          · have h := fN_n0 hf2 (show rB A w i = false by rw [eb, q0, Bool.eq_false_iff.mpr q1]; rfl)
            rw [Bool.eq_false_iff.mpr q1, if_pos (by rfl)]
            exact hgo τ5 t5' _ _ (by rw [h]) (by rw [h])
        · have h := fN_n0 hf2 (show rB A w i = false by rw [eb, Bool.eq_false_iff.mpr q0]; rfl)
          rw [Bool.eq_false_iff.mpr q0, if_pos (by rfl)]
          exact hgo τ4 t4' _ _ (by rw [h]) (by rw [h])
  have hf : 64 < FU := by decide
  exact key 64 0 FU σ0 (by omega) hf h0
/-! the model's ridge -/
def mO (μ0 μ : Mem) : Prop := (∀ c, c ≠ 0 → c ≠ 3 → c ≠ 4 → c ≠ 14 → gI μ c = gI μ0 c) ∧ ∀ j, (j < 11 ∨ 15 < j) → gI μ 0 j = gI μ0 0 j
theorem m_looks {μ0 : Mem} {k p : Nat} {A : Mil} (hM : mM (gI μ0 1) k A) (hk : k < 5) (hp : p < 3) {μ : Mem} (h0 : mO μ0 μ) : ∃ μ', f_X12_looksAt (nI p) (nI k) μ = some μ' ∧ mO μ0 μ' ∧ (∀ j, j < 24 → gI μ' 14 (24 * p + j) = tR A (j / 4) (j % 4)) ∧ ∀ j, (j < 24 * p ∨ 24 * p + 24 ≤ j) → gI μ' 14 j = gI μ 14 j := by
  have inner : ∀ (k2 : Int32 → Int32 → Int32 → Mem → Option Mem) (w : Nat), w < 6 → ∀ m i fu : Nat, ∀ τ : Mem, i + m = 4 → m < fu → mO μ0 τ → (∀ j, j < 4 * w + i → gI τ 14 (24 * p + j) = tR A (j / 4) (j % 4)) → (∀ j, (j < 24 * p ∨ 24 * p + 24 ≤ j) → gI τ 14 j = gI μ 14 j) →
      ∃ τ', fx5 (f_X12_looksAt_11 k2) fu (nI p) (nI k) (nI w) (nI i) τ = k2 (nI p) (nI k) (nI (w + 1)) τ' ∧ mO μ0 τ' ∧ (∀ j, j < 4 * (w + 1) → gI τ' 14 (24 * p + j) = tR A (j / 4) (j % 4)) ∧ ∀ j, (j < 24 * p ∨ 24 * p + 24 ≤ j) → gI τ' 14 j = gI μ 14 j := by
    intro k2 w hw m
    induction m with
    | zero =>
      intro i fu τ hi hf ht h1 h2
      obtain ⟨fu, rfl⟩ : ∃ z, fu = z + 1 := ⟨fu - 1, by omega⟩
      have hi : i = 4 := by omega
      subst hi
      refine ⟨τ, ?_, ht, fun j hj => h1 j (by omega), h2⟩
      show f_X12_looksAt_11 k2 _ _ _ _ _ _ = _
      unfold f_X12_looksAt_11
      rw [if_pos (by decide), lt_eq, nI_1]
    | succ m ih =>
      intro i fu τ hi hf ht h1 h2
      obtain ⟨fu, rfl⟩ : ∃ z, fu = z + 1 := ⟨fu - 1, by omega⟩
      have hMt : mM (gI τ 1) k A := by rw [ht.1 1 (by omega) (by omega) (by omega) (by omega)]; exact hM
      obtain ⟨ν, f1, -, -, f13, -, -, f3, f4, -⟩ := m_hourOf hMt hk hw (show 2 * i < 8 by omega) (show 0 < 10 by omega) (show 0 < 10 by omega)
      have f13 : gI ν 0 13 = tR A w i := f13
      obtain ⟨τ', u1, u2⟩ := ih (i + 1) fu (sI ν 14 (24 * p + 4 * w + i) (tR A w i)) (by omega) (by omega) ⟨fun c h0 h3 h4 h14 => by rw [gIr _ _ _ h14, f3 c h0 h3 h4]; exact ht.1 c h0 h3 h4 h14, fun j hj => by rw [gI_sc _ _ _ _ (by omega), f4 j hj]; exact ht.2 j hj⟩ (fun j hj => by
        by_cases e : j = 4 * w + i
        · subst e
          rw [show 24 * p + (4 * w + i) = 24 * p + 4 * w + i by omega, gI_ss, show (4 * w + i) / 4 = w by omega, show (4 * w + i) % 4 = i by omega]
        · rw [gI_sk _ _ _ (by omega), f3 14 (by omega) (by omega) (by omega)]
          exact h1 j (by omega)) (fun j hj => by
        rw [gI_sk _ _ _ (by omega), f3 14 (by omega) (by omega) (by omega)]
        exact h2 j hj)
      refine ⟨τ', ?_, u2⟩
      rw [← u1]
      show f_X12_looksAt_11 k2 (fx5 (f_X12_looksAt_11 k2) fu) _ _ _ _ _ = _
      generalize fx5 (f_X12_looksAt_11 k2) fu = kk
      unfold f_X12_looksAt_11
      simp (disch := omega) only [lt_eq, bd_some, bv_some, li, pk_mul, nI_add, nIsub, nIlt, nIle, nIeq, nIdiv, nIrem, neg_, pos_, ib_nI, gd_true, nI_tn, gI_ss, gI_sk, gI_sc, ↓reduceIte, nIn1b, f1, f13]
  have outer : ∀ m w fu : Nat, ∀ τ : Mem, w + m = 6 → m < fu → mO μ0 τ → (∀ j, j < 4 * w → gI τ 14 (24 * p + j) = tR A (j / 4) (j % 4)) → (∀ j, (j < 24 * p ∨ 24 * p + 24 ≤ j) → gI τ 14 j = gI μ 14 j) →
      ∃ μ', fx4 f_X12_looksAt_2 fu (nI p) (nI k) (nI w) τ = some μ' ∧ mO μ0 μ' ∧ (∀ j, j < 24 → gI μ' 14 (24 * p + j) = tR A (j / 4) (j % 4)) ∧ ∀ j, (j < 24 * p ∨ 24 * p + 24 ≤ j) → gI μ' 14 j = gI μ 14 j := by
    intro m
    induction m with
    | zero =>
      intro w fu τ hi hf ht h1 h2
      obtain ⟨fu, rfl⟩ : ∃ z, fu = z + 1 := ⟨fu - 1, by omega⟩
      have hi : w = 6 := by omega
      subst hi
      refine ⟨τ, ?_, ht, h1, h2⟩
      show f_X12_looksAt_2 _ _ _ _ _ = _
      unfold f_X12_looksAt_2
      exact if_pos (by decide)
    | succ m ih =>
      intro w fu τ hi hf ht h1 h2
      obtain ⟨fu, rfl⟩ : ∃ z, fu = z + 1 := ⟨fu - 1, by omega⟩
      have hF : 4 < FU := by decide
      obtain ⟨τ', u1, u2, u3, u4⟩ := inner (fx4 f_X12_looksAt_2 fu) w (by omega) 4 0 FU τ (by omega) hF ht h1 h2
      obtain ⟨μ', v1, v2⟩ := ih (w + 1) fu τ' (by omega) (by omega) u2 u3 u4
      refine ⟨μ', ?_, v2⟩
      rw [← v1, ← u1]
      show f_X12_looksAt_2 (fx4 f_X12_looksAt_2 fu) _ _ _ _ = _
      generalize fx4 f_X12_looksAt_2 fu = kk
      unfold f_X12_looksAt_2
      simp (disch := omega) only [lt_eq, bd_some, bv_some, li, pk_mul, nI_add, nIsub, nIlt, nIle, nIeq, nIdiv, nIrem, neg_, pos_, ib_nI, gd_true, nI_tn, gI_ss, gI_sk, gI_sc, ↓reduceIte, nIn1b]
  have hF : 6 < FU := by decide
  exact outer 6 0 FU μ (by omega) hF h0 (fun j hj => by omega) (fun _ _ => rfl)
