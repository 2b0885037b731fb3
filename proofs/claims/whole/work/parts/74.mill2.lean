/-! MILL: the step -/
theorem sMill_own {a a' : Nat → Nat → Int32} {s s' : Nat → Int32} {k : Nat} {A : Mil} (h : sMill a s k A) (e : ∀ i, i ≤ 4 → a' (mo k + i) = a (mo k + i)) (e1 : s' (131 + k) = s (131 + k)) (e2 : s' (136 + k) = s (136 + k)) (e3 : s' (141 + k) = s (141 + k)) (e4 : s' (146 + k) = s (146 + k)) (e5 : ∀ j, j < 140 → s' (151 + 140 * k + j) = s (151 + 140 * k + j)) : sMill a' s' k A := by
  have h' : sMill a' s k A := sMill_c h (fun j _ _ => by rw [show a' (mo k) = a (mo k) from e 0 (by omega)]) (fun i _ hi => e i hi)
  obtain ⟨h1, h2, h3, h4, h5, h6, h7, h8, h9, h10, h11, h12⟩ := h'
  exact ⟨h1, h2, h3, h4, h5, h6, h7, by rw [e1]; exact h8, by rw [e2]; exact h9, by rw [e3]; exact h10, h11, fun τ g1 g2 => h12 τ (by rw [g1, e4]) (fun j hj => by rw [g2 j hj, e5 j hj])⟩
theorem mill_end {n M M' : Nat} {Am Am' : Nat → Mil} {σ μ σ' μ' : Mem} (hn : n + 1 ≤ 64) (hA : sAll (gI σ) 2 (gI μ 1) M Am) (hH : ∀ k, k < M → cHours (gI σ) k (Am k)) (hQ : rIm (gI σ) (gI μ) M Am) (hp : rPl (gI σ) (gI μ 1) M Am (64 - (n + 1))) (hm : rMs (gI μ) (64 - (n + 1))) (ha : rAc (gI σ) (gI μ)) (hM : M < 5) (hM' : M' = M ∨ M' = M + 1)
    (fc : ∀ r, r ≠ 2 → r ≠ 3 → r ≠ 40 → (r < mo M ∨ mo M + 7 ≤ r) → gI σ' r = gI σ r) (c20 : gI σ' 2 0 = nI M') (c31 : gI σ' 3 1 = 0)
    (fm : ∀ r, r ≠ 0 → r ≠ 1 → gI μ' r = gI μ r) (fm0 : ∀ j, j ≠ 4 → j ≠ 5 → j ≠ 6 → j ≠ 7 → j ≠ 8 → gI μ' 0 j = gI μ 0 j)
    (fm1 : ∀ j, j ≠ 0 → j ≠ 4 → j ≠ 131 + M → j ≠ 136 + M → j ≠ 141 + M → j ≠ 146 + M → (j < 151 + 140 * M ∨ 291 + 140 * M ≤ j) → gI μ' 1 j = gI μ 1 j)
    (m0 : gI μ' 1 0 = nI M') (m4 : gI μ' 1 4 = 0) (hAm : ∀ j, j < M → Am' j = Am j)
    (new : M' = M + 1 → sMill (gI σ') (gI μ' 1) M (Am' M) ∧ cHours (gI σ') M (Am' M)) : Rel n σ' μ' := by
  obtain ⟨g1, g2, g3, g4, g5, g6, g7, g8, g9, g10⟩ := hA
  have lo : ∀ r, r < 48 → r ≠ 2 → r ≠ 3 → r ≠ 40 → gI σ' r = gI σ r := fun r h1 h2 h3 h4 => fc r h2 h3 h4 (by unfold mo; omega)
  have ml : ∀ k i, k < M → i ≤ 6 → gI σ' (mo k + i) = gI σ (mo k + i) := fun k i h1 h2 => fc _ (by unfold mo; omega) (by unfold mo; omega) (by unfold mo; omega) (by unfold mo; omega)
  have s1 : ∀ j, 0 < j → j ≠ 4 → (j < 131 ∨ 851 ≤ j) → gI μ' 1 j = gI μ 1 j := fun j h1 h2 h3 => fm1 j (by omega) h2 (by omega) (by omega) (by omega) (by omega) (by omega)
  have old : ∀ k, k < M → sMill (gI σ') (gI μ' 1) k (Am' k) := fun k hk => by
    rw [hAm k hk]
    exact sMill_own (g10 k hk) (fun i hi => ml k i hk (by omega)) (fm1 _ (by omega) (by omega) (by omega) (by omega) (by omega) (by omega) (by omega)) (fm1 _ (by omega) (by omega) (by omega) (by omega) (by omega) (by omega) (by omega)) (fm1 _ (by omega) (by omega) (by omega) (by omega) (by omega) (by omega) (by omega)) (fm1 _ (by omega) (by omega) (by omega) (by omega) (by omega) (by omega) (by omega)) (fun j hj => fm1 _ (by omega) (by omega) (by omega) (by omega) (by omega) (by omega) (by omega))
  have oldH : ∀ k, k < M → cHours (gI σ') k (Am' k) := fun k hk => by
    rw [hAm k hk]
    intro w st h d w1 w2 w3 w4
    rw [ml k 6 hk (by omega)]
    exact hH k hk w st h d w1 w2 w3 w4
  refine ⟨by omega, Am', M', ⟨by omega, c20, m0, ?_, ?_, ?_, ?_, ?_, ?_, ?_⟩, ?_, ?_, ?_, ?_, ?_⟩
  · obtain ⟨t1, t2, t3⟩ := g4
    refine ⟨?_, ⟨0, by omega, by rw [m4]; rfl, fun j hj => by omega⟩, fun j hj => ?_⟩
    · show gI σ' 3 1 = gI μ' 1 4
      rw [c31, m4]
    · show (gI σ' 4 j).toInt8.toInt32 = gI σ' 4 j
      rw [lo 4 (by omega) (by omega) (by omega) (by omega)]
      exact t3 j hj
  · rw [lo (2 + 4) (by omega) (by omega) (by omega) (by omega)]
    exact sWinds_m g5 (fun j hj => s1 j (by omega) (by omega) (by omega))
  · rw [lo (2 + 5) (by omega) (by omega) (by omega) (by omega)]
    obtain ⟨l1, l2, l3⟩ := sLed_m g6 (s' := gI μ' 1) (fun j hj => s1 j (by omega) (by omega) (by omega))
    refine ⟨l1, ?_, l3⟩
    rcases l2 with l2 | ⟨k, l4, l5⟩
    · exact Or.inl l2
    · exact Or.inr ⟨k, by omega, l5⟩
  · rw [lo (2 + 6) (by omega) (by omega) (by omega) (by omega), lo (2 + 7) (by omega) (by omega) (by omega) (by omega), lo (2 + 8) (by omega) (by omega) (by omega) (by omega), lo (2 + 9) (by omega) (by omega) (by omega) (by omega), lo (2 + 10) (by omega) (by omega) (by omega) (by omega)]
    exact sRules_m g7 (fun j hj => s1 j (by omega) (by omega) (by omega))
  · rw [lo (2 + 11) (by omega) (by omega) (by omega) (by omega), lo (2 + 12) (by omega) (by omega) (by omega) (by omega), lo (2 + 13) (by omega) (by omega) (by omega) (by omega)]
    exact sDay_m g8 (fun j hj => s1 j (by omega) (by omega) (by omega))
  · rw [lo (2 + 14) (by omega) (by omega) (by omega) (by omega), lo (2 + 15) (by omega) (by omega) (by omega) (by omega), lo (2 + 16) (by omega) (by omega) (by omega) (by omega), lo (2 + 17) (by omega) (by omega) (by omega) (by omega), lo (2 + 18) (by omega) (by omega) (by omega) (by omega)]
    exact sOrders_m g9 (fun j hj => s1 j (by omega) (by omega) (by omega))
  · intro k hk
    by_cases q : k < M
    · exact old k q
    · have : k = M := by omega
      subst this
      exact (new (by omega)).1
  · intro k hk
    by_cases q : k < M
    · exact oldH k q
    · have : k = M := by omega
      subst this
      exact (new (by omega)).2
  · rw [lo 0 (by omega) (by omega) (by omega) (by omega), fm0 3 (by omega) (by omega) (by omega) (by omega) (by omega), fm 2 (by omega) (by omega)]
    rcases hQ with h | ⟨h1, h2, Mi, h3, h4⟩
    · exact Or.inl h
    · refine Or.inr ⟨h1, h2, Mi, by omega, ?_⟩
      obtain ⟨q1, q2, q3, q4, q5, q6, q7, q8, q9, q10⟩ := h4
      have e : ∀ i, i < 19 → gI σ' (21 + i) = gI σ (21 + i) := fun i hi => lo _ (by omega) (by omega) (by omega) (by omega)
      refine ⟨q1, ?_, q3, ?_, ?_, ?_, ?_, ?_, ?_, ?_⟩
      · rw [lo 21 (by omega) (by omega) (by omega) (by omega)]
        exact q2
      · rw [e 1 (by omega), e 2 (by omega)]
        exact q4
      · rw [e 4 (by omega)]
        exact q5
      · rw [e 5 (by omega)]
        exact q6
      · rw [e 6 (by omega), e 7 (by omega), e 8 (by omega), e 9 (by omega), e 10 (by omega)]
        exact q7
      · rw [e 11 (by omega), e 12 (by omega), e 13 (by omega)]
        exact q8
      · rw [e 14 (by omega), e 15 (by omega), e 16 (by omega), e 17 (by omega), e 18 (by omega)]
        exact q9
      · intro k hk
        rw [hAm k (by omega)]
        exact sMill_own (q10 k hk) (fun i hi => ml k i (by omega) (by omega)) rfl rfl rfl rfl (fun _ _ => rfl)
  · have hs5 : gI μ' 1 5 = gI μ 1 5 := s1 5 (by omega) (by omega) (by omega)
    have hp' := rPl_up (a' := gI σ') (s' := gI μ' 1) hp (c' := 64 - n) (by omega) (by rw [lo 41 (by omega) (by omega) (by omega) (by omega)]) (by rw [lo 41 (by omega) (by omega) (by omega) (by omega)]) (lo 42 (by omega) (by omega) (by omega) (by omega)) (lo 43 (by omega) (by omega) (by omega) (by omega)) (lo 45 (by omega) (by omega) (by omega) (by omega)) (fun j hj => s1 j (by omega) (by omega) (by omega))
    obtain ⟨J, K, p1, p2, p3, p4, p5, p6, p7, p8, p9⟩ := hp'
    refine ⟨J, K, p1, p2, p3, p4, p5, p6, p7, p8, fun k hk hs => ?_⟩
    have hk' : k < M := by
      obtain ⟨-, l2, -⟩ := g6
      rw [← hs5, hs] at l2
      rcases l2 with l2 | ⟨k', l4, l5⟩
      · exfalso
        have : ∀ q : Fin 6, ¬ nI q.val = (-1 : Int32) := by decide
        exact this ⟨k, by omega⟩ l2
      · have := nI_inj (by omega) (by omega) l5
        omega
    rw [hAm k hk']
    exact p9 k hk' hs
  · exact rMs_up hm (by omega) (fm0 25 (by omega) (by omega) (by omega) (by omega) (by omega)) (fm0 26 (by omega) (by omega) (by omega) (by omega) (by omega)) (fm 5 (by omega) (by omega)) (fm 10 (by omega) (by omega)) (fm 11 (by omega) (by omega))
  · exact rAc_same ha (by rw [lo 46 (by omega) (by omega) (by omega) (by omega)]) (lo 47 (by omega) (by omega) (by omega) (by omega)) (fm0 35 (by omega) (by omega) (by omega) (by omega) (by omega)) (fm 15 (by omega) (by omega))
