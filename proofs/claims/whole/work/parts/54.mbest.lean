/-! THE PLANNER of the model: hours, best -/
def mHr (A : Mil) (J : Nat) (μ : Mem) : Prop := ∀ w st h d, w < 6 → st < 8 → h < 10 → d < 10 → gI μ 5 (hP w st h d) = nI J → gI μ 6 (hP w st h d) = gN A w st h d ∧ gI μ 7 (hP w st h d) = nI (hHe A w st h d) ∧ gI μ 8 (hP w st h d) = nI (hDu A w st h d) ∧ gI μ 9 (hP w st h d) = bI (hBu A w st h d)
def ixB (n w h d : Nat) : Nat := ((6 * n + w) * 10 + h) * 10 + d
def mBe (A : Mil) (ch : Nat → Nat → Nat) (J : Nat) (μ : Mem) : Prop := ∀ n w h d, n < 6 → w < 6 → h < 10 → d < 10 → gI μ 10 (ixB n w h d) = nI J → gL μ 12 (ixB n w h d) = lN (bBe A ch (n + 1) w h d)
def mI0 (k : Nat) (A : Mil) (J : Nat) (ch : Nat → Nat → Nat) (μ : Mem) : Prop := (k < 5 ∧ J < 1000 ∧ chO ch) ∧ mM (gI μ 1) k A ∧ gI μ 1 5 = nI k ∧ gI μ 0 25 = nI J ∧ (∀ w i, w < 6 → i < 6 → gI μ 1 (851 + 6 * w + i) = nI (ch w i)) ∧ mHr A J μ ∧ mBe A ch J μ ∧ (∀ i, i < 4800 → le_ (gI μ 5 i) J) ∧ ∀ i, i < 4200 → le_ (gI μ 10 i) J
def mFr (J : Nat) (μ μ' : Mem) : Prop := (∀ c, (c = 1 ∨ c = 2 ∨ c = 11 ∨ c = 14 ∨ c = 15) → gI μ' c = gI μ c) ∧ (∀ j, (j < 11 ∨ 15 < j) → gI μ' 0 j = gI μ 0 j) ∧ (∀ i, gL μ' 13 i = gL μ 13 i) ∧ ∀ i, gI μ 5 i = nI J → gI μ' 5 i = nI J
theorem mFr_refl (J : Nat) (μ : Mem) : mFr J μ μ := ⟨fun _ _ => rfl, fun _ _ => rfl, fun _ => rfl, fun _ h => h⟩
theorem mFr_trans {J : Nat} {μ τ υ : Mem} (h1 : mFr J μ τ) (h2 : mFr J τ υ) : mFr J μ υ := ⟨fun c hc => (h2.1 c hc).trans (h1.1 c hc), fun j hj => (h2.2.1 j hj).trans (h1.2.1 j hj), fun i => (h2.2.2.1 i).trans (h1.2.2.1 i), fun i hi => h2.2.2.2 i (h1.2.2.2 i hi)⟩
theorem hP_lt {w st h d : Nat} (hw : w < 6) (hs : st < 8) (hh : h < 10) (hd : d < 10) : hP w st h d < 4800 := by
  unfold hP
  omega
theorem hP_inj {w st h d w' st' h' d' : Nat} (e : hP w' st' h' d' = hP w st h d) (hs : st < 8) (hh : h < 10) (hd : d < 10) (hs' : st' < 8) (hh' : h' < 10) (hd' : d' < 10) : w' = w ∧ st' = st ∧ h' = h ∧ d' = d := by
  unfold hP at e
  omega
theorem ixB_lt {n w h d : Nat} (hn : n < 6) (hw : w < 6) (hh : h < 10) (hd : d < 10) : ixB n w h d < 4200 := by
  unfold ixB
  omega
theorem ixB_inj {n w h d n' w' h' d' : Nat} (e : ixB n' w' h' d' = ixB n w h d) (hw : w < 6) (hh : h < 10) (hd : d < 10) (hw' : w' < 6) (hh' : h' < 10) (hd' : d' < 10) : n' = n ∧ w' = w ∧ h' = h ∧ d' = d := by
  unfold ixB at e
  omega
theorem gL_ss (σ : Mem) (c k : Nat) (v : Int64) : gL (sL σ c k v) c k = v := by rw [gL_s, if_pos rfl, if_pos rfl]
theorem gL_sk (σ : Mem) (c : Nat) {k k' : Nat} (v : Int64) (h : k' ≠ k) : gL (sL σ c k v) c k' = gL σ c k' := by rw [gL_s, if_pos rfl, if_neg h]
theorem gL_sc (σ : Mem) {c c' : Nat} (k k' : Nat) (v : Int64) (h : c' ≠ c) : gL (sL σ c k v) c' k' = gL σ c' k' := by rw [gL_s, if_neg h]
theorem gL_of2 {σ τ : Mem} (h : σ.2 = τ.2) (c k : Nat) : gL σ c k = gL τ c k := by
  unfold gL
  rw [h]
section MPLAN
variable {k : Nat} {A : Mil} {J : Nat} {ch : Nat → Nat → Nat}
theorem m_hourPlace {μ : Mem} (hQ : mI0 k A J ch μ) {w st h d : Nat} (hw : w < 6) (hs : st < 8) (hh : h < 10) (hd : d < 10) : ∃ μ', f_X12_hourPlace (nI w) (nI st) (nI h) (nI d) μ = some (nI (hP w st h d), μ') ∧ mFr J μ μ' ∧ mI0 k A J ch μ' ∧ gI μ' 5 (hP w st h d) = nI J := by
  obtain ⟨⟨i1, i2, i3⟩, i4, i5, i6, i7, i8, i9, i10, i11⟩ := id hQ
  have hx := hP_lt hw hs hh hd
  have ex : ((((((8 : Int32) * nI w) + nI st) * (10 : Int32)) + nI h) * (10 : Int32)) + nI d = nI (hP w st h d) := by
    have e : ((8 * w + st) * 10 + h) * 10 + d = hP w st h d := by
      unfold hP
      omega
    rw [← e]
    simp only [li, pk_mul, nI_add]
  have ibx : ib (nI (hP w st h d)) 4800 = true := ib_nI hx (by omega)
  have tnx : (nI (hP w st h d)).toNatClampNeg = hP w st h d := nI_tn (by omega)
  by_cases q : gI μ 5 (hP w st h d) = nI J
  · refine ⟨μ, ?_, mFr_refl _ _, hQ, q⟩
    unfold f_X12_hourPlace
    rw [ex, lt_eq, ibx, gd_true, tnx, i6, if_pos q]
  · obtain ⟨ν, f1, f11, f12, f13, f14, f15, f3, f4, f5⟩ := m_hourOf i4 i1 hw hs hh hd
    generalize hx' : hP w st h d = x at *
    obtain ⟨V, hV⟩ : ∃ V, V = sI (sI (sI (sI (sI ν 5 x (nI J)) 6 x (gN A w st h d)) 7 x (nI (hHe A w st h d))) 8 x (nI (hDu A w st h d))) 9 x (bI (hBu A w st h d)) := ⟨_, rfl⟩
    have hc : f_X12_hourPlace (nI w) (nI st) (nI h) (nI d) μ = some (nI x, V) := by
      have y25 : gI ν 0 25 = nI J := by rw [f4 25 (by omega)]; exact i6
      have y13 : gI (sI ν 5 x (nI J)) 0 13 = gN A w st h d := by simp (disch := omega) only [gI_ss, gI_sk, gI_sc]; exact f13
      have y14 : gI (sI (sI ν 5 x (nI J)) 6 x (gN A w st h d)) 0 14 = nI (hHe A w st h d) := by simp (disch := omega) only [gI_ss, gI_sk, gI_sc]; exact f14
      have y15 : gI (sI (sI (sI ν 5 x (nI J)) 6 x (gN A w st h d)) 7 x (nI (hHe A w st h d))) 0 15 = nI (hDu A w st h d) := by simp (disch := omega) only [gI_ss, gI_sk, gI_sc]; exact f15
      have y12 : gI (sI (sI (sI (sI ν 5 x (nI J)) 6 x (gN A w st h d)) 7 x (nI (hHe A w st h d))) 8 x (nI (hDu A w st h d))) 0 12 = bI (hBu A w st h d) := by simp (disch := omega) only [gI_ss, gI_sk, gI_sc]; exact f12
      unfold f_X12_hourPlace
      rw [ex, lt_eq, ibx, gd_true, tnx, i6, if_neg q, i5, f1, bv_some]
      simp only [lt_eq, gd_true, y25, y13, y14, y15, y12, bI_iz]
      rw [hV]
    have r : ∀ c, c ≠ 0 → c ≠ 3 → c ≠ 4 → c ≠ 5 → c ≠ 6 → c ≠ 7 → c ≠ 8 → c ≠ 9 → gI V c = gI μ c := fun c h0 h3 h4 h5 h6 h7 h8 h9 => by
      rw [hV, gIr _ _ _ h9, gIr _ _ _ h8, gIr _ _ _ h7, gIr _ _ _ h6, gIr _ _ _ h5, f3 c h0 h3 h4]
    have r0 : ∀ j, (j < 11 ∨ 15 < j) → gI V 0 j = gI μ 0 j := fun j hj => by rw [hV]; simp (disch := omega) only [gI_ss, gI_sk, gI_sc]; exact f4 j hj
    have r5 : ∀ i, i ≠ x → gI V 5 i = gI μ 5 i ∧ gI V 6 i = gI μ 6 i ∧ gI V 7 i = gI μ 7 i ∧ gI V 8 i = gI μ 8 i ∧ gI V 9 i = gI μ 9 i := fun i hi => by
      rw [hV]
      refine ⟨?_, ?_, ?_, ?_, ?_⟩ <;> (simp (disch := omega) only [gI_ss, gI_sk, gI_sc]; rw [f3 _ (by omega) (by omega) (by omega)])
    have rx : gI V 5 x = nI J ∧ gI V 6 x = gN A w st h d ∧ gI V 7 x = nI (hHe A w st h d) ∧ gI V 8 x = nI (hDu A w st h d) ∧ gI V 9 x = bI (hBu A w st h d) := by
      rw [hV]
      refine ⟨?_, ?_, ?_, ?_, ?_⟩ <;> simp (disch := omega) only [gI_ss, gI_sk, gI_sc]
    have rL : V.2 = μ.2 := by rw [hV]; exact f5
    refine ⟨V, hc, ⟨fun c hc => r c (by omega) (by omega) (by omega) (by omega) (by omega) (by omega) (by omega) (by omega), r0, fun i => gL_of2 rL _ _, fun i hi => ?_⟩, ⟨⟨i1, i2, i3⟩, ?_, ?_, ?_, ?_, ?_, ?_, ?_, ?_⟩, rx.1⟩
    · by_cases e : i = x
      · rw [e]; exact rx.1
      · rw [(r5 i e).1]; exact hi
    · rw [r 1 (by omega) (by omega) (by omega) (by omega) (by omega) (by omega) (by omega) (by omega)]; exact i4
    · rw [r 1 (by omega) (by omega) (by omega) (by omega) (by omega) (by omega) (by omega) (by omega)]; exact i5
    · rw [r0 25 (by omega)]; exact i6
    · rw [r 1 (by omega) (by omega) (by omega) (by omega) (by omega) (by omega) (by omega) (by omega)]; exact i7
    · intro w' st' h' d' a1 a2 a3 a4 a5
      by_cases e : hP w' st' h' d' = x
      · obtain ⟨rfl, rfl, rfl, rfl⟩ := hP_inj (e.trans hx'.symm) hs hh hd a2 a3 a4
        rw [e]
        exact rx.2
      · obtain ⟨g5, g6, g7, g8, g9⟩ := r5 _ e
        rw [g5] at a5
        rw [g6, g7, g8, g9]
        exact i8 w' st' h' d' a1 a2 a3 a4 a5
    · intro n w h d a1 a2 a3 a4 a5
      rw [r 10 (by omega) (by omega) (by omega) (by omega) (by omega) (by omega) (by omega) (by omega)] at a5
      rw [gL_of2 rL]
      exact i9 n w h d a1 a2 a3 a4 a5
    · intro i hi
      by_cases e : i = x
      · rw [e, rx.1]; exact ⟨J, Nat.le_refl _, rfl⟩
      · rw [(r5 i e).1]; exact i10 i hi
    · intro i hi
      rw [r 10 (by omega) (by omega) (by omega) (by omega) (by omega) (by omega) (by omega) (by omega)]
      exact i11 i hi
/-- what a stamped place holds -/
theorem m_at {μ : Mem} (hQ : mI0 k A J ch μ) {w st h d : Nat} (hw : w < 6) (hs : st < 8) (hh : h < 10) (hd : d < 10) (h5 : gI μ 5 (hP w st h d) = nI J) : gI μ 6 (hP w st h d) = gN A w st h d ∧ gI μ 7 (hP w st h d) = nI (hHe A w st h d) ∧ gI μ 8 (hP w st h d) = nI (hDu A w st h d) ∧ gI μ 9 (hP w st h d) = bI (hBu A w st h d) := hQ.2.2.2.2.2.1 w st h d hw hs hh hd h5
theorem gN_neg {A : Mil} {w st h d : Nat} (b : ∀ kd sg, A.1 kd sg ≤ 990) : (gN A w st h d < 0) = (hAw A w st h d = true) := by
  apply propext
  have := hMe_le b w st h d
  unfold gN
  by_cases q : hAw A w st h d = true
  · rw [if_pos q]
    exact ⟨fun _ => q, fun _ => by decide⟩
  · rw [if_neg q]
    exact ⟨fun z => absurd z (nI_pos (by omega)), fun z => absurd z q⟩
theorem gN_pos {A : Mil} {w st h d : Nat} (b : ∀ kd sg, A.1 kd sg ≤ 990) : (0 ≤ gN A w st h d) = ¬ (hAw A w st h d = true) := by
  rw [← gN_neg b]
  exact propext Int32.not_lt.symm
def rcL (k : Nat) (A : Mil) (J : Nat) (ch : Nat → Nat → Nat) (n : Nat) (rc : Int32 → Int32 → Int32 → Int32 → Mem → Option (Int64 × Mem)) : Prop := ∀ (τ : Mem) (w h d : Nat), mI0 k A J ch τ → w < 6 → h < 10 → d < 10 → ∃ τ', rc (nI n) (nI w) (nI h) (nI d) τ = some (lN (bBe A ch n w h d), τ') ∧ mFr J τ τ' ∧ mI0 k A J ch τ'
theorem m_with {rc : Int32 → Int32 → Int32 → Int32 → Mem → Option (Int64 × Mem)} {n : Nat} (hn1 : 1 ≤ n) (hn : n ≤ 6) (hrc : rcL k A J ch (n - 1) rc) {μ : Mem} (hQ : mI0 k A J ch μ) {w st h d : Nat} (hw : w < 6) (hs : st < 8) (hh : h < 10) (hd : d < 10) : ∃ μ', f_X12_with rc (nI n) (nI w) (nI st) (nI h) (nI d) μ = some (lN (bWo A ch (bBe A ch (n - 1)) w st h d), μ') ∧ mFr J μ μ' ∧ mI0 k A J ch μ' := by
  have b := hQ.2.1.1
  have hch := hQ.1.2.2
  obtain ⟨τ0, t1, t2, t3, t4⟩ := m_hourPlace hQ hw hs hh hd
  obtain ⟨v6, v7, v8, -⟩ := m_at t3 hw hs hh hd t4
  have hx := hP_lt hw hs hh hd
  have hH := hHe_le A w st hh d
  have hD := hDu_le A w st h hd
  have hle := hMe_le b w st h d
  have ibx : ib (nI (hP w st h d)) 4800 = true := ib_nI hx (by omega)
  have tnx : (nI (hP w st h d)).toNatClampNeg = hP w st h d := nI_tn (by omega)
  unfold f_X12_with
  rw [t1, bd_some]
  simp only [ibx, tnx, gd_true, v6, v7, v8, lt_eq, gN_pos b]
  by_cases qa : hAw A w st h d = true
  · rw [if_neg (by rw [qa]; simp)]
    refine ⟨τ0, ?_, t2, t3⟩
    unfold bWo
    rw [if_pos qa]
    rfl
  · rw [if_pos qa]
    obtain ⟨g, hg⟩ : ∃ g : Nat → Nat, g = fun i => bBe A ch (n - 1) i (hHe A w st h d) (hDu A w st h d) := ⟨_, rfl⟩
    have hgi : ∀ i, bBe A ch (n - 1) i (hHe A w st h d) (hDu A w st h d) = g i := fun i => by rw [hg]
    have ew : bWo A ch (bBe A ch (n - 1)) w st h d = 1000 * hMe A w st h d + sum6 (fun i => ch w i * g i) / 1000 := by
      rw [hg]
      exact if_neg qa
    have eg : gN A w st h d = nI (hMe A w st h d) := if_neg qa
    have hgb : ∀ i, i < 6 → g i ≤ 5000000 := fun i hi => by
      rw [← hgi]
      exact Nat.le_trans (bBe_le b hch (n - 1) i (hHe A w st h d) (hDu A w st h d) hi) (by omega)
    have hsum := (bh_le hch hw hgb).1
    have hquo := (bh_le hch hw hgb).2
    have key : ∀ m i fu : Nat, ∀ τ : Mem, i + m = 6 → m < fu → mI0 k A J ch τ → gI τ 5 (hP w st h d) = nI J → ∃ μ', fx8 (f_X12_with_48 rc) fu (nI n) (nI w) (nI (hP w st h d)) (nI (hHe A w st h d)) (nI (hDu A w st h d)) (lN (sumN (fun i => ch w i * g i) i)) (nI i) τ = some (lN (bWo A ch (bBe A ch (n - 1)) w st h d), μ') ∧ mFr J τ μ' ∧ mI0 k A J ch μ' := by
      intro m
      induction m with
      | zero =>
        intro i fu τ hi hf ht h5
        obtain ⟨fu, rfl⟩ : ∃ z, fu = z + 1 := ⟨fu - 1, by omega⟩
        have hi : i = 6 := by omega
        subst hi
        refine ⟨τ, ?_, mFr_refl _ _, ht⟩
        obtain ⟨u6, -⟩ := m_at ht hw hs hh hd h5
        rw [sumN_6]
        show f_X12_with_48 rc _ _ _ _ _ _ _ _ _ = _
        unfold f_X12_with_48
        rw [if_pos (by decide), ibx, gd_true, tnx, u6, eg, show (1000 : Int64) = lN 1000 from rfl, nI_l (by omega), lN_mul, lNdiv (by omega) (by omega), lN_add, ew]
      | succ m ih =>
        intro i fu τ hi hf ht h5
        obtain ⟨fu, rfl⟩ : ∃ z, fu = z + 1 := ⟨fu - 1, by omega⟩
        have hcl := chO_le hch hw (show i < 6 by omega)
        have es : sumN (fun i => ch w i * g i) (i + 1) = sumN (fun i => ch w i * g i) i + ch w i * g i := rfl
        have e851 : ((851 : Int32) + ((6 : Int32) * nI w)) + nI i = nI (851 + 6 * w + i) := by simp only [li, pk_mul, nI_add]
        have ib8 : ib (nI (851 + 6 * w + i)) 1055 = true := ib_nI (by omega) (by omega)
        have tn8 : (nI (851 + 6 * w + i)).toNatClampNeg = 851 + 6 * w + i := nI_tn (by omega)
        have l1 := ht.2.2.2.2.1 w i hw (by omega)
        by_cases q0 : ch w i = 0
        · obtain ⟨μ', u1, u2, u3⟩ := ih (i + 1) fu τ (by omega) (by omega) ht h5
          refine ⟨μ', ?_, u2, u3⟩
          have es0 : sumN (fun i => ch w i * g i) (i + 1) = sumN (fun i => ch w i * g i) i := by
            rw [es, q0, Nat.zero_mul]
            rfl
          rw [← u1, es0]
          show f_X12_with_48 rc (fx8 (f_X12_with_48 rc) fu) _ _ _ _ _ _ _ _ = _
          generalize fx8 (f_X12_with_48 rc) fu = kk
          unfold f_X12_with_48 f_X12_with_101
          rw [if_neg (show ¬ (6 : Int32) ≤ nI i from nI_ge (a := i) (b := 6) (by omega) (by omega)), e851, ib8, gd_true, tn8, lt_eq, l1, q0, if_pos (by rfl), lt_eq, lt_eq, nI_1, show (0 : Int64) = lN 0 from rfl, lN_add]
          rfl
        · obtain ⟨τ', r1, r2, r3⟩ := hrc τ i (hHe A w st h d) (hDu A w st h d) ht (by omega) (by omega) (by omega)
          obtain ⟨μ', u1, u2, u3⟩ := ih (i + 1) fu τ' (by omega) (by omega) r3 (r2.2.2.2 _ h5)
          refine ⟨μ', ?_, mFr_trans r2 u2, u3⟩
          have hgg := hgb i (by omega)
          rw [← u1, es]
          show f_X12_with_48 rc (fx8 (f_X12_with_48 rc) fu) _ _ _ _ _ _ _ _ = _
          generalize fx8 (f_X12_with_48 rc) fu = kk
          unfold f_X12_with_48 f_X12_with_101
          rw [if_neg (show ¬ (6 : Int32) ≤ nI i from nI_ge (a := i) (b := 6) (by omega) (by omega)), e851, ib8, gd_true, tn8, lt_eq, l1, if_neg (show ¬ nI (ch w i) = 0 from nI_ne0 (by omega) (by omega))]
          rw [show nI n - 1 = nI (n - 1) from by rw [show n = n - 1 + 1 by omega]; exact nI_pred _, r1, bd_some, lt_eq, lt_eq, nI_1, hgi, nI_l (by omega), lN_mul, lN_add]
    have hF : 6 < FU := by decide
    obtain ⟨μ', u1, u2, u3⟩ := key 6 0 FU τ0 (by omega) hF t3 t4
    exact ⟨μ', u1, mFr_trans t2 u2, u3⟩
theorem bWo_lt {A : Mil} (b : ∀ kd sg, A.1 kd sg ≤ 990) {ch : Nat → Nat → Nat} (hch : chO ch) {n w st h d : Nat} (hn : n ≤ 6) (hw : w < 6) : bWo A ch (bBe A ch (n - 1)) w st h d < 10000000 := by
  have := bWo_le b hch (B := bBe A ch (n - 1)) (X := 5000000) (st := st) (y := h) (d := d) hw (fun i h' d' hi => Nat.le_trans (bBe_le b hch (n - 1) i h' d' hi) (by omega))
  generalize bWo A ch (bBe A ch (n - 1)) w st h d = z at *
  omega
theorem m_bestFromN : ∀ (n : Nat) (fu : Nat), n < fu → n ≤ 6 → rcL k A J ch n (fx5 f_X12_bestFrom_F fu) := by
  intro n
  induction n with
  | zero =>
    intro fu hf _ τ w h d hτ hw hh hd
    obtain ⟨fu, rfl⟩ : ∃ z, fu = z + 1 := ⟨fu - 1, by omega⟩
    exact ⟨τ, rfl, mFr_refl _ _, hτ⟩
  | succ n ih =>
    intro fu hf hn τ w h d hτ hw hh hd
    obtain ⟨fu, rfl⟩ : ∃ z, fu = z + 1 := ⟨fu - 1, by omega⟩
    have hrc := ih fu (by omega) (by omega)
    have b := hτ.2.1.1
    have hch := hτ.1.2.2
    have hJ := hτ.1.2.1
    have h25 : gI τ 0 25 = nI J := hτ.2.2.2.1
    have hx := ixB_lt (show n < 6 by omega) hw hh hd
    have ex : ((((((6 : Int32) * (nI (n + 1) - (1 : Int32))) + nI w) * (10 : Int32)) + nI h) * (10 : Int32)) + nI d = nI (ixB n w h d) := by
      rw [show nI (n + 1) - (1 : Int32) = nI n from nI_pred n]
      unfold ixB
      simp only [li, pk_mul, nI_add]
    have ibx : ib (nI (ixB n w h d)) 4200 = true := ib_nI hx (by omega)
    have tnx : (nI (ixB n w h d)).toNatClampNeg = ixB n w h d := nI_tn (by omega)
    obtain ⟨me, hme⟩ : ∃ me : Nat → Nat, me = fun st => bWo A ch (bBe A ch n) w st h d := ⟨_, rfl⟩
    have hmb : ∀ st, me st < 10000000 := fun st => by
      rw [hme]
      exact bWo_lt (n := n + 1) b hch hn hw
    have hxb : ∀ i, mx8 me i < 10000000 := fun i => by
      have := mx8_le (f := me) (B := 9999999) (n := i) (fun j _ => by have := hmb j; omega)
      omega
    have eB : bBe A ch (n + 1) w h d = mx8 me 8 := by rw [hme]; rfl
    show ∃ τ', f_X12_bestFrom_F (fx5 f_X12_bestFrom_F fu) _ _ _ _ _ = _ ∧ _
    unfold f_X12_bestFrom_F
    rw [if_neg (show ¬ nI (n + 1) = 0 from nI_ne0 (by omega) (by omega)), ex, lt_eq]
    simp only [ibx, tnx, gd_true, h25]
    by_cases q : gI τ 10 (ixB n w h d) = nI J
    · rw [if_pos q, hτ.2.2.2.2.2.2.1 n w h d (by omega) hw hh hd q]
      exact ⟨τ, rfl, mFr_refl _ _, hτ⟩
    · rw [if_neg q, eB]
      have key : ∀ m i fu' : Nat, ∀ υ : Mem, i + m = 8 → m < fu' → mI0 k A J ch υ → ∃ μ', fx8 (f_X12_bestFrom_47 (fx5 f_X12_bestFrom_F fu)) fu' (nI (n + 1)) (nI w) (nI h) (nI d) (nI (ixB n w h d)) (lN (mx8 me i)) (nI i) υ = some (lN (mx8 me 8), μ') ∧ mFr J υ μ' ∧ mI0 k A J ch μ' := by
        intro m
        induction m with
        | zero =>
          intro i fu' υ hi hf ht
          obtain ⟨fu', rfl⟩ : ∃ z, fu' = z + 1 := ⟨fu' - 1, by omega⟩
          have hi : i = 8 := by omega
          subst hi
          have y25 : gI υ 0 25 = nI J := ht.2.2.2.1
          refine ⟨sL (sI υ 10 (ixB n w h d) (nI J)) 12 (ixB n w h d) (lN (mx8 me 8)), ?_, ⟨fun c hc => ?_, fun j hj => ?_, fun i => ?_, fun i hi => ?_⟩, ?_⟩
          · show f_X12_bestFrom_47 _ _ _ _ _ _ _ _ _ _ = _
            unfold f_X12_bestFrom_47
            rw [if_pos (by decide)]
            simp only [ibx, tnx, gd_true, y25, lt_eq, gL_ss]
          · rw [gIrL, gIr _ _ _ (by omega)]
          · rw [gI_sL, gI_sc _ _ _ _ (by omega)]
          · rw [gL_sc _ _ _ _ (by omega), gL_sI]
          · rw [gI_sL, gI_sc _ _ _ _ (by omega)]
            exact hi
          · obtain ⟨⟨i1, i2, i3⟩, i4, i5, i6, i7, i8, i9, i10, i11⟩ := ht
            refine ⟨⟨i1, i2, i3⟩, by rw [gIrL, gIr _ _ _ (by omega)]; exact i4, by rw [gI_sL, gI_sc _ _ _ _ (by omega)]; exact i5, by rw [gI_sL, gI_sc _ _ _ _ (by omega)]; exact i6, fun w i a b => by rw [gI_sL, gI_sc _ _ _ _ (by omega)]; exact i7 w i a b, ?_, ?_, fun i hi => by rw [gI_sL, gI_sc _ _ _ _ (by omega)]; exact i10 i hi, fun i hi => ?_⟩
            · intro w st h d a1 a2 a3 a4 a5
              rw [gI_sL, gI_sc _ _ _ _ (by omega)] at a5
              rw [gI_sL, gI_sL, gI_sL, gI_sL, gI_sc _ _ _ _ (by omega), gI_sc _ _ _ _ (by omega), gI_sc _ _ _ _ (by omega), gI_sc _ _ _ _ (by omega)]
              exact i8 w st h d a1 a2 a3 a4 a5
            · intro n' w' h' d' a1 a2 a3 a4 a5
              by_cases e : ixB n' w' h' d' = ixB n w h d
              · obtain ⟨rfl, rfl, rfl, rfl⟩ := ixB_inj e hw hh hd a2 a3 a4
                rw [gL_ss, eB]
              · rw [gI_sL, gI_sk _ _ _ e] at a5
                rw [gL_sk _ _ _ e, gL_sI]
                exact i9 n' w' h' d' a1 a2 a3 a4 a5
            · rw [gI_sL]
              by_cases e : i = ixB n w h d
              · rw [e, gI_ss]
                exact ⟨J, Nat.le_refl _, rfl⟩
              · rw [gI_sk _ _ _ e]
                exact i11 i hi
        | succ m ih2 =>
          intro i fu' υ hi hf ht
          obtain ⟨fu', rfl⟩ : ∃ z, fu' = z + 1 := ⟨fu' - 1, by omega⟩
          obtain ⟨υ', r1, r2, r3⟩ := m_with (n := n + 1) (by omega) hn hrc ht hw (show i < 8 by omega) hh hd
          have r1 : f_X12_with (fx5 f_X12_bestFrom_F fu) (nI (n + 1)) (nI w) (nI i) (nI h) (nI d) υ = some (lN (me i), υ') := by rw [r1, hme]; rfl
          obtain ⟨μ', u1, u2, u3⟩ := ih2 (i + 1) fu' υ' (by omega) (by omega) r3
          refine ⟨μ', ?_, mFr_trans r2 u2, u3⟩
          rw [← u1]
          have e2 : mx8 me (i + 1) = max (mx8 me i) (me i) := rfl
          have g1 := hmb i
          have g2 := hxb i
          show f_X12_bestFrom_47 (fx5 f_X12_bestFrom_F fu) (fx8 (f_X12_bestFrom_47 (fx5 f_X12_bestFrom_F fu)) fu') _ _ _ _ _ _ _ _ = _
          generalize fx8 (f_X12_bestFrom_47 (fx5 f_X12_bestFrom_F fu)) fu' = kk
          unfold f_X12_bestFrom_47 f_X12_bestFrom_82
          rw [if_neg (show ¬ (8 : Int32) ≤ nI i from nI_ge (a := i) (b := 8) (by omega) (by omega)), r1, bd_some, e2]
          simp only [lg_le (show me i < 2 ^ 31 by omega) (show mx8 me i < 2 ^ 31 by omega)]
          by_cases qq : me i ≤ mx8 me i
          · rw [if_pos qq, Nat.max_eq_left qq, lt_eq, nI_1]
          · rw [if_neg qq, Nat.max_eq_right (by omega), lt_eq, nI_1]
      have hF : 8 < FU := by decide
      exact key 8 0 FU τ (by omega) hF hτ
theorem m_bestFrom {μ : Mem} (hQ : mI0 k A J ch μ) {n w h d : Nat} (hn : n ≤ 6) (hw : w < 6) (hh : h < 10) (hd : d < 10) : ∃ μ', f_X12_bestFrom (nI n) (nI w) (nI h) (nI d) μ = some (lN (bBe A ch n w h d), μ') ∧ mFr J μ μ' ∧ mI0 k A J ch μ' := m_bestFromN n 16 (by omega) hn μ w h d hQ hw hh hd
theorem m_withx {μ : Mem} (hQ : mI0 k A J ch μ) {n w st h d : Nat} (hn1 : 1 ≤ n) (hn : n ≤ 6) (hw : w < 6) (hs : st < 8) (hh : h < 10) (hd : d < 10) : ∃ μ', f_X12_withx (nI n) (nI w) (nI st) (nI h) (nI d) μ = some (lN (bWo A ch (bBe A ch (n - 1)) w st h d), μ') ∧ mFr J μ μ' ∧ mI0 k A J ch μ' := m_with hn1 hn (m_bestFromN (n - 1) 16 (by omega) (by omega)) hQ hw hs hh hd
end MPLAN
