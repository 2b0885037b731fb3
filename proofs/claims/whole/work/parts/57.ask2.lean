/-! QUESTIONS TO THE PLANNER: how they begin, how they end -/
theorem win_ {c6 s : Nat → Int32} (h : sWinds c6 s) : (∀ w i, w < 6 → i < 6 → c6 (6 * w + i) = nI (chN s w i) ∧ s (851 + 6 * w + i) = nI (chN s w i)) ∧ chO (chN s) := by
  have key : ∀ w, w < 6 → ∃ c : Nat → Nat, (∀ i, i < 6 → c6 (6 * w + i) = nI (c i) ∧ s (851 + 6 * w + i) = nI (c i) ∧ chN s w i = c i) ∧ c 0 + c 1 + c 2 + c 3 + c 4 + c 5 = 1000 := by
    intro w hw
    obtain ⟨c, h1, h2⟩ := h w hw
    refine ⟨c, fun i hi => ?_, h2⟩
    have hc : c i ≤ 1000 := by
      rcases (show i = 0 ∨ i = 1 ∨ i = 2 ∨ i = 3 ∨ i = 4 ∨ i = 5 by omega) with rfl | rfl | rfl | rfl | rfl | rfl <;> omega
    refine ⟨(h1 i hi).1, (h1 i hi).2, ?_⟩
    unfold chN
    rw [if_pos ⟨hw, hi⟩, (h1 i hi).2, nI_tn (by omega)]
  refine ⟨fun w i hw hi => ?_, fun w hw => ?_⟩
  · obtain ⟨c, h1, h2⟩ := key w hw
    obtain ⟨a1, a2, a3⟩ := h1 i hi
    rw [a3]
    exact ⟨a1, a2⟩
  · obtain ⟨c, h1, h2⟩ := key w hw
    unfold sum6
    rw [(h1 0 (by omega)).2.2, (h1 1 (by omega)).2.2, (h1 2 (by omega)).2.2, (h1 3 (by omega)).2.2, (h1 4 (by omega)).2.2, (h1 5 (by omega)).2.2]
    exact h2
theorem cI0_of {σ τ : Mem} {s : Nat → Int32} {M : Nat} {Am : Nat → Mil} {k J : Nat} (hA : sAll (gI σ) 2 s M Am) (hH : ∀ j, j < M → cHours (gI σ) j (Am j)) (hk : k < M) (hJ : J < 1000) (h43 : ∀ i, i < 4200 → le_ (gI σ 43 i) J) (hB : cBest (gI σ) J (Am k) (chN s)) (hτ : ∀ c, c ≠ 41 → gI τ c = gI σ c) (h6 : gI τ 41 6 = nI (mo k)) (h7 : gI τ 41 7 = nI 5) (h4 : gI τ 41 4 = nI J) : cI0 M Am k J (chN s) τ := by
  have hm : ∀ j i, gI τ (mo j + i) = gI σ (mo j + i) := fun j i => hτ _ (by unfold mo; omega)
  obtain ⟨w1, w2⟩ := win_ hA.2.2.2.2.1
  refine ⟨⟨hA.1, hk, hJ, w2⟩, fun j hj => cM_c (sMill_cM (hA.2.2.2.2.2.2.2.2.2 j hj)) (fun x _ _ => by have := hm j 0; rw [Nat.add_zero] at this; rw [this]) (fun i _ _ => hm j i), fun j hj => ?_, h6, h7, h4, ?_, fun w i hw hi => ?_, fun i hi => by rw [hτ 43 (by omega)]; exact h43 i hi⟩
  · intro w st h d a1 a2 a3 a4
    rw [hm j 6]
    exact hH j hj w st h d a1 a2 a3 a4
  · intro n w h d a1 a2 a3 a4 a5 a6
    rw [hτ 43 (by omega)] at a6
    rw [hτ 42 (by omega)]
    exact hB n w h d a1 a2 a3 a4 a5 a6
  · rw [hτ 6 (by omega)]
    exact (w1 w i hw hi).1
theorem cI0_41 {σ τ : Mem} {M : Nat} {Am : Nat → Mil} {k J : Nat} {ch : Nat → Nat → Nat} (hQ : cI0 M Am k J ch σ) (hτ : ∀ c, c ≠ 41 → gI τ c = gI σ c) (h6 : gI τ 41 6 = gI σ 41 6) (h7 : gI τ 41 7 = gI σ 41 7) (h4 : gI τ 41 4 = gI σ 41 4) : cI0 M Am k J ch τ := by
  have hm : ∀ j i, gI τ (mo j + i) = gI σ (mo j + i) := fun j i => hτ _ (by unfold mo; omega)
  obtain ⟨i1, i5, i6, i7, i8, i9, i10, i11, i12⟩ := hQ
  refine ⟨i1, fun j hj => cM_c (i5 j hj) (fun x _ _ => by have := hm j 0; rw [Nat.add_zero] at this; rw [this]) (fun i _ _ => hm j i), fun j hj => ?_, h6.trans i7, h7.trans i8, h4.trans i9, ?_, fun w i hw hi => by rw [hτ 6 (by omega)]; exact i11 w i hw hi, fun i hi => by rw [hτ 43 (by omega)]; exact i12 i hi⟩
  · intro w st h d a1 a2 a3 a4
    rw [hm j 6]
    exact i6 j hj w st h d a1 a2 a3 a4
  · intro n w h d a1 a2 a3 a4 a5 a6
    rw [hτ 43 (by omega)] at a6
    rw [hτ 42 (by omega)]
    exact i10 n w h d a1 a2 a3 a4 a5 a6
/-- the model begins -/
theorem m_begins {μ : Mem} {M : Nat} {Am : Nat → Mil} {a : Nat → Nat → Int32} {k c : Nat} (hA : sAll a 2 (gI μ 1) M Am) (hk : k < M) (h5 : gI μ 1 5 = nI k) (hm : rMs (gI μ) c) (hc : c < 900) : ∃ μ' J K, f_X12_begins μ = some μ' ∧ J ≤ c + 1 ∧ K ≤ 10 * c + 1 ∧ (∀ c, c ≠ 0 → gI μ' c = gI μ c) ∧ (∀ j, j ≠ 25 → j ≠ 26 → gI μ' 0 j = gI μ 0 j) ∧ mI0 k (Am k) J (chN (gI μ 1)) μ' ∧ gI μ' 0 26 = nI K ∧ ∀ i, i < 21600 → le_ (gI μ' 11 i) K := by
  obtain ⟨J, K, j1, j2, j3, j4, j5, j6, j7⟩ := hm
  obtain ⟨V, hV⟩ : ∃ V, V = sI (sI μ 0 25 (nI (J + 1))) 0 26 (nI (K + 1)) := ⟨_, rfl⟩
  have r0 : ∀ c, c ≠ 0 → gI V c = gI μ c := fun c hc => by rw [hV]; simp (disch := omega) only [gIr, gIrL]
  have rL : V.2 = μ.2 := by rw [hV]; rfl
  obtain ⟨w1, w2⟩ := win_ hA.2.2.2.2.1
  have hM5 := hA.1
  refine ⟨V, J + 1, K + 1, ?_, by omega, by omega, r0, fun j h1 h2 => by rw [hV]; simp (disch := omega) only [gI_ss, gI_sk, gI_sc], ⟨⟨by omega, by omega, w2⟩, by rw [r0 1 (by omega)]; exact sMill_mM (hA.2.2.2.2.2.2.2.2.2 k hk), by rw [r0 1 (by omega)]; exact h5, by rw [hV]; simp (disch := omega) only [gI_ss, gI_sk, gI_sc], fun w i hw hi => by rw [r0 1 (by omega)]; exact (w1 w i hw hi).2, ?_, ?_, fun i hi => by rw [r0 5 (by omega)]; exact le_mono (j5 i hi) (by omega), fun i hi => by rw [r0 10 (by omega)]; exact le_mono (j6 i hi) (by omega)⟩, by rw [hV]; simp (disch := omega) only [gI_ss, gI_sk, gI_sc], fun i hi => by rw [r0 11 (by omega)]; exact le_mono (j7 i hi) (by omega)⟩
  · have e26 : gI (sI μ 0 25 (nI (J + 1))) 0 26 = nI K := by simp (disch := omega) only [gI_ss, gI_sk, gI_sc]; exact j4
    unfold f_X12_begins
    rw [j3, nI_1, lt_eq, e26, nI_1, hV]
    rfl
  · intro w st h d a1 a2 a3 a4 a5
    exfalso
    rw [r0 5 (by omega)] at a5
    obtain ⟨j, hj, ej⟩ := j5 _ (hP_lt a1 a2 a3 a4)
    rw [ej] at a5
    have := nI_inj (by omega) (by omega) a5
    omega
  · intro n w h d a1 a2 a3 a4 a5
    exfalso
    rw [r0 10 (by omega)] at a5
    obtain ⟨j, hj, ej⟩ := j6 _ (ixB_lt a1 a2 a3 a4)
    rw [ej] at a5
    have := nI_inj (by omega) (by omega) a5
    omega
/-- a question to the planner ends -/
theorem rel_plan {n : Nat} {σ μ σ' μ' : Mem} {Am : Nat → Mil} {M k J J2 K K2 : Nat} (hn : n + 1 ≤ 64) (hA : sAll (gI σ) 2 (gI μ 1) M Am) (hI : rIm (gI σ) (gI μ) M Am) (ha : rAc (gI σ) (gI μ)) (h5 : gI μ 1 5 = nI k) (hQ : cI0 M Am k J (chN (gI μ 1)) σ') (hJ1 : 1 ≤ J) (hJ : J ≤ 1 + (64 - n)) (hK1 : 1 ≤ K) (hK : K ≤ 1 + 10 * (64 - n)) (hk5 : gI σ' 41 5 = nI K) (h45 : ∀ i, i < 21600 → le_ (gI σ' 45 i) K)
    (c1 : ∀ c, c < 48 → (c < 41 ∨ 45 < c) → gI σ' c = gI σ c) (c4 : ∀ k, k < M → gI σ' (mo k) = gI σ (mo k) ∧ ∀ i, 1 ≤ i → i ≤ 4 → gI σ' (mo k + i) = gI σ (mo k + i))
    (m1 : ∀ c, (c = 1 ∨ c = 2 ∨ c = 15) → gI μ' c = gI μ c) (m2 : gI μ' 0 3 = gI μ 0 3) (m3 : gI μ' 0 35 = gI μ 0 35) (hm : mI0 k (Am k) J2 (chN (gI μ 1)) μ') (hJ2 : J2 ≤ 64 - n) (hK2 : K2 ≤ 10 * (64 - n)) (h26 : gI μ' 0 26 = nI K2) (h11 : ∀ i, i < 21600 → le_ (gI μ' 11 i) K2) : Rel n σ' μ' := by
  obtain ⟨⟨i0, i1, i2, i3⟩, i5, i6, i7, i8, i9, i10, i11, i12⟩ := hQ
  refine rel_ask hn hA hI ha (fun c hc => c1 c (by omega) (by omega)) (c1 46 (by omega) (by omega)) (c1 47 (by omega) (by omega)) c4 i6 ⟨J, K, hJ1, hJ, hK1, hK, i9, hk5, i12, h45, fun k' hk' e => ?_⟩ (m1 1 (by omega)) (m1 2 (by omega)) (m1 15 (by omega)) m2 m3 ⟨J2, K2, hJ2, hK2, hm.2.2.2.1, h26, hm.2.2.2.2.2.2.2.1, hm.2.2.2.2.2.2.2.2, h11⟩
  have : k' = k := nI_inj (by omega) (by omega) (e.symm.trans h5)
  subst this
  exact i10
/-- a rule of the state, on both sides -/
theorem rule_ctx {σ μ : Mem} {rl : Nat → Int32} {R : Nat} (h : ∀ i, i < R → gI σ 9 i = gI μ 1 (887 + i) ∧ gI σ 10 i = gI μ 1 (897 + i) ∧ gI σ 11 i = gI μ 1 (907 + i) ∧ le_ (gI μ 1 (887 + i)) 6 ∧ le_ (gI μ 1 (897 + i)) 7 ∧ ∃ z, z ≤ 10 ∧ gI μ 1 (907 + i) = nI z ∧ ∀ j, j < z → gI σ 12 (10 * i + j) = gI μ 1 (917 + 10 * i + j) ∧ le_ (gI μ 1 (917 + 10 * i + j)) 7) {i : Nat} (hi : i < R) (hR : R ≤ 10) : ∃ (kd v : Nat) (row : Nat → Nat), gI σ 9 i = nI kd ∧ gI σ 10 i = nI v ∧ gI μ 1 (887 + i) = nI kd ∧ gI μ 1 (897 + i) = nI v ∧ kd < 7 ∧ v < 8 ∧ (∀ t, row t < 8) ∧ (∀ τ, (∀ c, 8 ≤ c → c < 41 → gI τ c = gI σ c) → ∀ t, t < 100 → f_X7_told (nI i) (nI t) τ = some (nI (row t), τ)) ∧ mSt kd v row (nI i) (gI μ 1) := by
  obtain ⟨q1, q2, q3, ⟨kd, q4, q4'⟩, ⟨v, q5, q5'⟩, z, q6, q7, q8⟩ := h i hi
  obtain ⟨row, hrow⟩ : ∃ row : Nat → Nat, row = fun t => if z = 0 then v else (gI μ 1 (917 + 10 * i + t % z)).toNatClampNeg := ⟨_, rfl⟩
  have r0 : z = 0 → ∀ t, row t = v := fun e t => by rw [hrow]; exact if_pos e
  have rz : 0 < z → ∀ t, gI μ 1 (917 + 10 * i + t % z) = nI (row t) ∧ row t < 8 := fun e t => by
    have hm : t % z < z := Nat.mod_lt _ e
    obtain ⟨x, hx, ex⟩ := (q8 (t % z) hm).2
    have : row t = x := by
      rw [hrow]
      show (if z = 0 then v else (gI μ 1 (917 + 10 * i + t % z)).toNatClampNeg) = x
      rw [if_neg (by omega), ex, nI_tn (by omega)]
    rw [this]
    exact ⟨ex, by omega⟩
  have r8 : ∀ t, row t < 8 := fun t => by
    by_cases e : z = 0
    · rw [r0 e t]; omega
    · exact (rz (by omega) t).2
  refine ⟨kd, v, row, q1.trans q4', q2.trans q5', q4', q5', by omega, by omega, r8, fun τ hτ t ht => ?_, by omega, by omega, r8, fun _ => ⟨i, z, rfl, by omega, q6, q7, r0, fun e t => (rz e t).1⟩⟩
  have e11 : gI τ 11 i = nI z := by rw [hτ 11 (by omega) (by omega)]; exact q3.trans q7
  have e10 : gI τ 10 i = nI v := by rw [hτ 10 (by omega) (by omega)]; exact q2.trans q5'
  have ibi : ib (nI i) 10 = true := ib_nI (by omega) (by omega)
  have ti : (nI i).toNatClampNeg = i := nI_tn (by omega)
  unfold f_X7_told
  simp only [ibi, ti, gd_true, lt_eq, e11, e10]
  by_cases e : z = 0
  · rw [if_pos (by rw [e]; decide), r0 e t]
  · have hm : t % z < z := Nat.mod_lt _ (by omega)
    have ey : (nI i * (10 : Int32)) + irm (nI t) (nI z) = nI (10 * i + t % z) := by
      rw [nIrem (by omega) (by omega) (by omega), show (10 : Int32) = nI 10 from rfl, pk_mul, nI_add, Nat.mul_comm]
    have iby : ib (nI (10 * i + t % z)) 100 = true := ib_nI (by omega) (by omega)
    have tny : (nI (10 * i + t % z)).toNatClampNeg = 10 * i + t % z := nI_tn (by omega)
    have e12 : gI τ 12 (10 * i + t % z) = nI (row t) := by
      rw [hτ 12 (by omega) (by omega), (q8 (t % z) hm).1]
      exact (rz (by omega) t).1
    rw [if_neg (show ¬ nI z ≤ 0 from nI_ge (a := 0) (by omega) (by omega)), if_pos (nI_pos' (by omega)), decide_eq_true (show ¬ nI z = 0 from nI_ne0 (by omega) (by omega)), gd_true, ey, iby, gd_true, tny, e12]
/-- the class begins, and follows a rule -/
theorem c_followR {σ : Mem} {s : Nat → Int32} {M : Nat} {Am : Nat → Mil} {k J : Nat} (hA : sAll (gI σ) 2 s M Am) (hH : ∀ j, j < M → cHours (gI σ) j (Am j)) (hk : k < M) (hJ : J < 1000) (h4 : gI σ 41 4 = nI J) (h43 : ∀ i, i < 4200 → le_ (gI σ 43 i) J) (hB : cBest (gI σ) J (Am k) (chN s)) {i kd v : Nat} {row : Nat → Nat} (hi : i < 10) (e9 : gI σ 9 i = nI kd) (e10 : gI σ 10 i = nI v) (hkd : kd < 7) (hv : v < 8) (hr : ∀ t, row t < 8) (ht : ∀ τ, (∀ c, 8 ≤ c → c < 41 → gI τ c = gI σ c) → ∀ t, t < 100 → f_X7_told (nI i) (nI t) τ = some (nI (row t), τ)) :
    ∃ σ', (∀ {ρ : Type} (kk : Mem → Option ρ), (bv (f_X5_begin (mo k) σ) fun σ_1 => bv (f_X5_followRule (nI i) σ_1) kk) = kk σ') ∧ (∀ c, c ≠ 41 → gI σ' c = gI σ c) ∧ gI σ' 41 5 = gI σ 41 5 ∧ cI0 M Am k J (chN s) σ' ∧ cSt kd v row σ' := by
  obtain ⟨V, hV⟩ : ∃ V, V = sI (sI (sI (sI (sI (sI σ 41 6 (nI (mo k))) 41 7 (nI 5)) 41 8 (nI 8)) 41 9 (nI i)) 41 10 (nI kd)) 41 11 (nI v) := ⟨_, rfl⟩
  have r : ∀ c, c ≠ 41 → gI V c = gI σ c := fun c hc => by rw [hV]; simp (disch := omega) only [gIr, gIrL]
  refine ⟨V, fun kk => ?_, r, by rw [hV]; simp (disch := omega) only [gI_ss, gI_sk, gI_sc], cI0_of hA hH hk hJ h43 hB r (by rw [hV]; simp (disch := omega) only [gI_ss, gI_sk, gI_sc]) (by rw [hV]; simp (disch := omega) only [gI_ss, gI_sk, gI_sc]) (by rw [hV]; simp (disch := omega) only [gI_ss, gI_sk, gI_sc]; exact h4), hkd, hv, hr, by rw [hV]; simp (disch := omega) only [gI_ss, gI_sk, gI_sc], by rw [hV]; simp (disch := omega) only [gI_ss, gI_sk, gI_sc], fun _ => ⟨by rw [hV]; simp (disch := omega) only [gI_ss, gI_sk, gI_sc], i, by rw [hV]; simp (disch := omega) only [gI_ss, gI_sk, gI_sc], fun τ hτ t h100 => ht τ (fun c h8 hc => (hτ c h8 hc).trans (r c (by omega))) t h100⟩⟩
  have ibi : ib (nI i) 10 = true := ib_nI (by omega) (by omega)
  have ti : (nI i).toNatClampNeg = i := nI_tn (by omega)
  have y9 : gI (sI (sI (sI (sI σ 41 6 (nI (mo k))) 41 7 (nI 5)) 41 8 (nI 8)) 41 9 (nI i)) 9 i = nI kd := by simp (disch := omega) only [gI_ss, gI_sk, gI_sc]; exact e9
  have y10 : gI (sI (sI (sI (sI (sI σ 41 6 (nI (mo k))) 41 7 (nI 5)) 41 8 (nI 8)) 41 9 (nI i)) 41 10 (nI kd)) 10 i = nI v := by simp (disch := omega) only [gI_ss, gI_sk, gI_sc]; exact e10
  unfold f_X5_begin f_X5_followRule
  simp only [lt_eq, bv_some, ibi, ti, gd_true, y9, y10]
  rw [hV]
theorem op_sets (n : Nat) (σ μ : Mem) (p1 p2 p3 p4 p5 : Int32) (hR : Rel (n + 1) σ μ) : ∃ (r : Int32) (σ1 μ1 : Mem), f_X11_sets p1 p2 p3 p4 p5 σ = some (r, σ1) ∧ f_X12_sets p1 p2 p3 p4 p5 μ = some (r, μ1) ∧ Rel n σ1 μ1 := by
  have hi := rel_idle n σ μ hR
  obtain ⟨hn, Am, M, hA, hH, hI, hp, hm, ha⟩ := hR
  have hM5 := hA.1
  obtain ⟨d1, D, d2, d3, d4⟩ := hA.2.2.2.2.2.2.1
  have d1 : gI σ 8 4 = nI D := d1.trans d3
  have d3 : gI μ 1 1 = nI D := d3
  by_cases h1 : wi p1 0 (nI D - 1) = 0
  · exact ⟨-1, σ, μ, by simp only [bd_some, bv_some, lt_eq, ↓reduceIte, f_X11_sets, c_isRule, d1, h1], by simp only [bd_some, bv_some, lt_eq, ↓reduceIte, f_X12_sets, m_isRule, d3, h1], hi⟩
  by_cases h4 : wi p4 0 5 = 0
  · exact ⟨-1, σ, μ, by simp only [bd_some, bv_some, lt_eq, ↓reduceIte, f_X11_sets, c_isRule, d1, h1, c_isWind, h4], by simp only [bd_some, bv_some, lt_eq, ↓reduceIte, f_X12_sets, m_isRule, d3, h1, m_isWind, h4], hi⟩
  by_cases h5 : wi p5 0 5 = 0
  · exact ⟨-1, σ, μ, by simp only [bd_some, bv_some, lt_eq, ↓reduceIte, f_X11_sets, c_isRule, d1, h1, c_isWind, h4, h5], by simp only [bd_some, bv_some, lt_eq, ↓reduceIte, f_X12_sets, m_isRule, d3, h1, m_isWind, h4, h5], hi⟩
  by_cases h2 : wi p2 0 9 = 0
  · exact ⟨-2, σ, μ, by simp only [bd_some, bv_some, lt_eq, ↓reduceIte, f_X11_sets, c_isRule, d1, h1, c_isWind, h4, h5, c_within, h2], by simp only [bd_some, bv_some, lt_eq, ↓reduceIte, f_X12_sets, m_isRule, d3, h1, m_isWind, h4, h5, m_within, h2], hi⟩
  by_cases h3 : wi p3 1 6 = 0
  · exact ⟨-2, σ, μ, by simp only [bd_some, bv_some, lt_eq, ↓reduceIte, f_X11_sets, c_isRule, d1, h1, c_isWind, h4, h5, c_within, h2, h3], by simp only [bd_some, bv_some, lt_eq, ↓reduceIte, f_X12_sets, m_isRule, d3, h1, m_isWind, h4, h5, m_within, h2, h3], hi⟩
  rcases led_is hA with ⟨-, l2, l3⟩ | ⟨k, hk, l5, l7, l2, l3⟩
  · exact ⟨-3, σ, μ, by simp only [bd_some, bv_some, lt_eq, ↓reduceIte, f_X11_sets, c_isRule, d1, h1, c_isWind, h4, h5, c_within, h2, h3, l2], by simp only [bd_some, bv_some, lt_eq, ↓reduceIte, f_X12_sets, m_isRule, d3, h1, m_isWind, h4, h5, m_within, h2, h3, l3], hi⟩
  obtain ⟨i, hi1, rfl⟩ := wi_cnt h1 (by omega)
  obtain ⟨w, -, hw, rfl⟩ := wi_nat (lo := 0) (hi := 5) h4 (by omega) (by omega)
  obtain ⟨bf, -, hbf, rfl⟩ := wi_nat (lo := 0) (hi := 5) h5 (by omega) (by omega)
  obtain ⟨t, -, ht, rfl⟩ := wi_nat (lo := 0) (hi := 9) h2 (by omega) (by omega)
  obtain ⟨l, hl1, hl, rfl⟩ := wi_nat (lo := 1) (hi := 6) h3 (by omega) (by omega)
  obtain ⟨e1, -, -, ⟨h, hh, e7⟩, ⟨d, hd, e8⟩, -⟩ := hA.2.2.2.2.2.1
  have c72 : gI σ 7 2 = nI h := (e1 2 (by omega)).trans e7
  have c73 : gI σ 7 3 = nI d := (e1 3 (by omega)).trans e8
  have e7 : gI μ 1 7 = nI h := e7
  have e8 : gI μ 1 8 = nI d := e8
  obtain ⟨J, K, j1, j2, j3, j4, j5, j6, j7, j8, j9⟩ := id hp
  obtain ⟨kd, v, row, r1, r2, r3, r4, r5, r6, r7, r8, r9⟩ := rule_ctx (σ := σ) (rl := gI σ 8) d4 hi1 d2
  obtain ⟨σ1, s1, s2, s3, s4, s5⟩ := c_followR hA hH hk (by omega) j5 j7 (j9 k hk l5) (by omega) r1 r2 r5 r6 r7 r8
  obtain ⟨σ2, t1, t2, t3⟩ := c_settingAt s4 s5 (t := t) (l := l) (w := w) (bf := bf) (h := h) (d := d) (by omega) hl1 (by omega) (by omega) (by omega) (by omega) (by omega)
  obtain ⟨μ1, J2, K2, u1, u2, u3, u4, u5, u6, u7, u8⟩ := m_begins hA hk l5 hm (by omega)
  obtain ⟨μ2, v1, v2, v3⟩ := m_settingOf u6 (ru := nI i) (by rw [u4 1 (by omega)]; exact r9) (t := t) (l := l) (w := w) (bf := bf) (h := h) (d := d) (by omega) hl1 (by omega) (by omega) (by omega) (by omega) (by omega)
  have ibk : ib (nI k) 5 = true := ib_nI (by omega) (by omega)
  have tk : (nI k).toNatClampNeg = k := nI_tn (by omega)
  have g72 : gI σ1 7 2 = nI h := by rw [s2 7 (by omega)]; exact c72
  have g73 : gI σ1 7 3 = nI d := by rw [s2 7 (by omega)]; exact c73
  refine ⟨nI (stK (Am k) (chN (gI μ 1)) kd v row t l w bf h d), σ2, μ2, ?_, ?_, ?_⟩
  · simp only [bd_some, bv_some, lt_eq, ↓reduceIte, f_X11_sets, c_isRule, d1, h1, c_isWind, h4, h5, c_within, h2, h3, l2, e10_, l7, ibk, gd_true, tk]
    rw [s1]
    rw [g72, g73, t1, bd_some]
  · have ex : (887 : Int32) + nI i = nI (887 + i) := nI_add 887 i
    have ey : (897 : Int32) + nI i = nI (897 + i) := nI_add 897 i
    have ibx : ib (nI (887 + i)) 1055 = true := ib_nI (by omega) (by omega)
    have iby : ib (nI (897 + i)) 1055 = true := ib_nI (by omega) (by omega)
    have tx : (nI (887 + i)).toNatClampNeg = 887 + i := nI_tn (by omega)
    have ty : (nI (897 + i)).toNatClampNeg = 897 + i := nI_tn (by omega)
    have z1 : gI μ1 1 (887 + i) = nI kd := by rw [u4 1 (by omega)]; exact r3
    have z2 : gI μ1 1 (897 + i) = nI v := by rw [u4 1 (by omega)]; exact r4
    have z7 : gI μ1 1 7 = nI h := by rw [u4 1 (by omega)]; exact e7
    have z8 : gI μ1 1 8 = nI d := by rw [u4 1 (by omega)]; exact e8
    simp only [bd_some, bv_some, lt_eq, ↓reduceIte, f_X12_sets, m_isRule, d3, h1, m_isWind, h4, h5, m_within, h2, h3, l3, e10_, u1, ex, ey, ibx, iby, gd_true, tx, ty, z1, z2, z7, z8, v1]
  · refine rel_plan (k := k) (J := J) (K := K) (J2 := J2) (K2 := K2) (by omega) hA hI ha l5 t3 j1 (by omega) j3 (by omega) ?_ ?_ ?_ ?_ ?_ ?_ ?_ v3 (by omega) (by omega) ?_ ?_
    · rw [t2.1 41 (by omega) (by omega) (by omega), s3]; exact j6
    · intro x hx
      rw [t2.1 45 (by omega) (by omega) (by omega), s2 45 (by omega)]
      exact j8 x hx
    · exact fun c h1 h2 => (t2.1 c h1 (by omega) (by omega)).trans (s2 c (by omega))
    · exact fun j hj => ⟨(t2.2 j hj).1.trans (s2 _ (by unfold mo; omega)), fun x a b => ((t2.2 j hj).2 x a b).trans (s2 _ (by unfold mo; omega))⟩
    · exact fun c hc => (v2.1 c (by omega)).trans (u4 c (by omega))
    · exact (v2.2.1 3 (by omega)).trans (u5 3 (by omega) (by omega))
    · exact (v2.2.1 35 (by omega)).trans (u5 35 (by omega) (by omega))
    · exact (v2.2.1 26 (by omega)).trans u7
    · intro x hx
      rw [v2.1 11 (by omega)]
      exact u8 x hx
