/-! THE PLANNER of the model: means -/
def mMn (A : Mil) (ch : Nat → Nat → Nat) (sf : Nat → Nat → Nat → Nat → Nat → Nat → Nat) (dz : Int32) (aw : Bool) (n K : Nat) (μ : Mem) : Prop := ∀ t w bf h d, t < n → w < 6 → bf < 6 → h < 10 → d < 10 → gI μ 11 (ixM t w bf h d) = nI K → gL μ 13 (ixM t w bf h d) = lN (mMe A ch sf dz aw (n - t) t w bf h d)
def mFm (J : Nat) (μ μ' : Mem) : Prop := (∀ c, (c = 1 ∨ c = 2 ∨ c = 14 ∨ c = 15) → gI μ' c = gI μ c) ∧ (∀ j, (j < 11 ∨ 15 < j) → gI μ' 0 j = gI μ 0 j) ∧ ∀ i, gI μ 5 i = nI J → gI μ' 5 i = nI J
theorem mFm_refl (J : Nat) (μ : Mem) : mFm J μ μ := ⟨fun _ _ => rfl, fun _ _ => rfl, fun _ h => h⟩
theorem mFm_trans {J : Nat} {μ τ υ : Mem} (h1 : mFm J μ τ) (h2 : mFm J τ υ) : mFm J μ υ := ⟨fun c hc => (h2.1 c hc).trans (h1.1 c hc), fun j hj => (h2.2.1 j hj).trans (h1.2.1 j hj), fun i hi => h2.2.2 i (h1.2.2 i hi)⟩
theorem mFm_of {J : Nat} {μ τ : Mem} (h : mFr J μ τ) : mFm J μ τ := ⟨fun c hc => h.1 c (by omega), h.2.1, h.2.2.2⟩
section MMEAN
variable {k : Nat} {A : Mil} {J : Nat} {ch : Nat → Nat → Nat} {kd v : Nat} {row : Nat → Nat} {ru dz : Int32} {aw : Bool} {n K : Nat}
def mI1 (k : Nat) (A : Mil) (J : Nat) (ch : Nat → Nat → Nat) (kd v : Nat) (row : Nat → Nat) (ru dz : Int32) (aw : Bool) (n K : Nat) (μ : Mem) : Prop := mI0 k A J ch μ ∧ mSt kd v row ru (gI μ 1) ∧ n ≤ 6 ∧ gI μ 0 27 = nI kd ∧ gI μ 0 28 = nI v ∧ gI μ 0 29 = ru ∧ gI μ 0 30 = nI n ∧ gI μ 0 31 = dz ∧ gI μ 0 32 = bI aw ∧ gI μ 0 26 = nI K ∧ mMn A ch (stK A ch kd v row) dz aw n K μ ∧ ∀ i, i < 21600 → le_ (gI μ 11 i) K
theorem mI1_fr {μ τ : Mem} (h : mI1 k A J ch kd v row ru dz aw n K μ) (hf : mFr J μ τ) (h0 : mI0 k A J ch τ) : mI1 k A J ch kd v row ru dz aw n K τ := by
  obtain ⟨i1, i2, i3, i4, i5, i6, i7, i8, i9, i10, i11, i12⟩ := h
  have e := hf.2.1
  refine ⟨h0, by rw [hf.1 1 (by omega)]; exact i2, i3, by rw [e 27 (by omega)]; exact i4, by rw [e 28 (by omega)]; exact i5, by rw [e 29 (by omega)]; exact i6, by rw [e 30 (by omega)]; exact i7, by rw [e 31 (by omega)]; exact i8, by rw [e 32 (by omega)]; exact i9, by rw [e 26 (by omega)]; exact i10, ?_, fun i hi => by rw [hf.1 11 (by omega)]; exact i12 i hi⟩
  intro t w bf h d a1 a2 a3 a4 a5 a6
  rw [hf.1 11 (by omega)] at a6
  rw [hf.2.2.1]
  exact i11 t w bf h d a1 a2 a3 a4 a5 a6
def rcN (k : Nat) (A : Mil) (J : Nat) (ch : Nat → Nat → Nat) (kd v : Nat) (row : Nat → Nat) (ru dz : Int32) (aw : Bool) (n K : Nat) (r : Nat) (rc : Int32 → Int32 → Int32 → Int32 → Int32 → Mem → Option (Int64 × Mem)) : Prop := ∀ (τ : Mem) (t w bf h d : Nat), mI1 k A J ch kd v row ru dz aw n K τ → t + r = n → w < 6 → bf < 6 → h < 10 → d < 10 → ∃ τ', rc (nI t) (nI w) (nI bf) (nI h) (nI d) τ = some (lN (mMe A ch (stK A ch kd v row) dz aw r t w bf h d), τ') ∧ mFm J τ τ' ∧ mI1 k A J ch kd v row ru dz aw n K τ'
theorem m_behind {rc : Int32 → Int32 → Int32 → Int32 → Int32 → Mem → Option (Int64 × Mem)} {r : Nat} (hrc : 0 < r → rcN k A J ch kd v row ru dz aw n K r rc) {μ : Mem} (hQ : mI1 k A J ch kd v row ru dz aw n K μ) {t w h d : Nat} (htr : t + r = n) (hw : w < 6) (hh : h < 10) (hd : d < 10) :
    ∃ μ', f_X12_behind rc (nI t) (nI w) (nI h) (nI d) μ = some (lN (sum6 (fun i => ch w i * mMe A ch (stK A ch kd v row) dz aw r t i w h d) / 1000), μ') ∧ mFm J μ μ' ∧ mI1 k A J ch kd v row ru dz aw n K μ' := by
  have b := hQ.1.2.1.1
  have hch := hQ.1.1.2.2
  have hn6 := hQ.2.2.1
  obtain ⟨g, hg⟩ : ∃ g : Nat → Nat, g = fun i => mMe A ch (stK A ch kd v row) dz aw r t i w h d := ⟨_, rfl⟩
  have hgi : ∀ i, mMe A ch (stK A ch kd v row) dz aw r t i w h d = g i := fun i => by rw [hg]
  have hgb : ∀ i, i < 6 → g i ≤ 6000000 := fun i hi => by
    rw [← hgi]
    exact Nat.le_trans (mMe_le b hch _ dz aw r t i w h d hi) (by omega)
  have hsum := (bh_le hch hw hgb).1
  have e6 : sum6 (fun i => ch w i * mMe A ch (stK A ch kd v row) dz aw r t i w h d) = sum6 (fun i => ch w i * g i) := by rw [hg]
  rw [e6]
  have l30 := hQ.2.2.2.2.2.2.1
  unfold f_X12_behind
  rw [l30]
  by_cases q1 : r = 0
  · refine ⟨μ, ?_, mFm_refl _ _, hQ⟩
    have e0 : sum6 (fun i => ch w i * g i) = 0 := by
      rw [hg, q1]
      rfl
    rw [if_pos (show nI t = nI n from by rw [show t = n by omega]), e0]
    rfl
  · rw [if_neg (show ¬ nI t = nI n from fun z => by have := nI_inj (by omega) (by omega) z; omega)]
    have key : ∀ m i fu : Nat, ∀ τ : Mem, i + m = 6 → m < fu → mI1 k A J ch kd v row ru dz aw n K τ → ∃ μ', fx7 (f_X12_behind_16 rc) fu (nI t) (nI w) (nI h) (nI d) (lN (sumN (fun i => ch w i * g i) i)) (nI i) τ = some (lN (sum6 (fun i => ch w i * g i) / 1000), μ') ∧ mFm J τ μ' ∧ mI1 k A J ch kd v row ru dz aw n K μ' := by
      intro m
      induction m with
      | zero =>
        intro i fu τ hi hf ht
        obtain ⟨fu, rfl⟩ : ∃ z, fu = z + 1 := ⟨fu - 1, by omega⟩
        have hi : i = 6 := by omega
        subst hi
        refine ⟨τ, ?_, mFm_refl _ _, ht⟩
        rw [sumN_6]
        show f_X12_behind_16 rc _ _ _ _ _ _ _ _ = _
        unfold f_X12_behind_16
        rw [if_pos (by decide), show (1000 : Int64) = lN 1000 from rfl, lNdiv (by omega) (by omega)]
      | succ m ih =>
        intro i fu τ hi hf ht
        obtain ⟨fu, rfl⟩ : ∃ z, fu = z + 1 := ⟨fu - 1, by omega⟩
        have hcl := chO_le hch hw (show i < 6 by omega)
        have es : sumN (fun i => ch w i * g i) (i + 1) = sumN (fun i => ch w i * g i) i + ch w i * g i := rfl
        have e851 : ((851 : Int32) + ((6 : Int32) * nI w)) + nI i = nI (851 + 6 * w + i) := by simp only [li, pk_mul, nI_add]
        have ib8 : ib (nI (851 + 6 * w + i)) 1055 = true := ib_nI (by omega) (by omega)
        have tn8 : (nI (851 + 6 * w + i)).toNatClampNeg = 851 + 6 * w + i := nI_tn (by omega)
        have l1 := ht.1.2.2.2.2.1 w i hw (by omega)
        by_cases q0 : ch w i = 0
        · obtain ⟨μ', u1, u2, u3⟩ := ih (i + 1) fu τ (by omega) (by omega) ht
          refine ⟨μ', ?_, u2, u3⟩
          have es0 : sumN (fun i => ch w i * g i) (i + 1) = sumN (fun i => ch w i * g i) i := by
            rw [es, q0, Nat.zero_mul]
            rfl
          rw [← u1, es0]
          show f_X12_behind_16 rc (fx7 (f_X12_behind_16 rc) fu) _ _ _ _ _ _ _ = _
          generalize fx7 (f_X12_behind_16 rc) fu = kk
          unfold f_X12_behind_16 f_X12_behind_67
          rw [if_neg (show ¬ (6 : Int32) ≤ nI i from nI_ge (a := i) (b := 6) (by omega) (by omega)), e851, ib8, gd_true, tn8, lt_eq, l1, q0, if_pos (by rfl), lt_eq, lt_eq, nI_1, show (0 : Int64) = lN 0 from rfl, lN_add]
          rfl
        · obtain ⟨τ', r1, r2, r3⟩ := hrc (by omega) τ t i w h d ht htr (by omega) hw hh hd
          obtain ⟨μ', u1, u2, u3⟩ := ih (i + 1) fu τ' (by omega) (by omega) r3
          refine ⟨μ', ?_, mFm_trans r2 u2, u3⟩
          have hgg := hgb i (by omega)
          rw [← u1, es]
          show f_X12_behind_16 rc (fx7 (f_X12_behind_16 rc) fu) _ _ _ _ _ _ _ = _
          generalize fx7 (f_X12_behind_16 rc) fu = kk
          unfold f_X12_behind_16 f_X12_behind_67
          rw [if_neg (show ¬ (6 : Int32) ≤ nI i from nI_ge (a := i) (b := 6) (by omega) (by omega)), e851, ib8, gd_true, tn8, lt_eq, l1, if_neg (show ¬ nI (ch w i) = 0 from nI_ne0 (by omega) (by omega)), r1, bd_some, lt_eq, lt_eq, nI_1, hgi, nI_l (by omega), lN_mul, lN_add]
    have hF : 6 < FU := by decide
    exact key 6 0 FU μ (by omega) hF hQ
theorem m_meanAnew {rc : Int32 → Int32 → Int32 → Int32 → Int32 → Mem → Option (Int64 × Mem)} {r : Nat} (hrc : 0 < r → rcN k A J ch kd v row ru dz aw n K r rc) {μ : Mem} (hQ : mI1 k A J ch kd v row ru dz aw n K μ) {t w bf h d : Nat} (htr : t + 1 + r = n) (hw : w < 6) (hb : bf < 6) (hh : h < 10) (hd : d < 10) :
    ∃ μ', f_X12_meanAnew rc (nI t) (nI w) (nI bf) (nI h) (nI d) μ = some (lN (mMe A ch (stK A ch kd v row) dz aw (r + 1) t w bf h d), μ') ∧ mFm J μ μ' ∧ mI1 k A J ch kd v row ru dz aw n K μ' := by
  have b := hQ.1.2.1.1
  obtain ⟨q1, q2, q3, q4, q5, q6, q7, q8, q9, q10, q11, q12⟩ := id hQ
  have em : mMe A ch (stK A ch kd v row) dz aw (r + 1) t w bf h d =
    if nI t = dz then sum6 (fun i => ch w i * mMe A ch (stK A ch kd v row) dz aw r (t + 1) i w 0 0) / 1000
    else if hAw A w (stK A ch kd v row t (r + 1) w bf h d) h d = true then (if aw = true then 1000000 else 0)
    else (if aw = true then 0 else 1000 * hMe A w (stK A ch kd v row t (r + 1) w bf h d) h d) + sum6 (fun i => ch w i * mMe A ch (stK A ch kd v row) dz aw r (t + 1) i w (hHe A w (stK A ch kd v row t (r + 1) w bf h d) h d) (hDu A w (stK A ch kd v row t (r + 1) w bf h d) h d)) / 1000 := rfl
  rw [em]
  unfold f_X12_meanAnew
  rw [q8]
  by_cases qd : nI t = dz
  · rw [if_pos qd, if_pos qd, nI_1]
    obtain ⟨μ', s1, s2⟩ := m_behind hrc hQ (t := t + 1) (w := w) (h := 0) (d := 0) htr hw (by omega) (by omega)
    refine ⟨μ', ?_, s2⟩
    rw [show (0 : Int32) = nI 0 from rfl, s1, bd_some]
  · rw [if_neg qd, if_neg qd, q4, q5, q6, q7, nIsub (show t ≤ n by omega), show n - t = r + 1 by omega]
    obtain ⟨μ1, s1, s2, s3⟩ := m_settingOf q1 q2 (t := t) (l := r + 1) (w := w) (bf := bf) (h := h) (d := d) (by omega) (by omega) (by omega) hw hb hh hd
    have hst : stK A ch kd v row t (r + 1) w bf h d < 8 := stK_lt _ _ q2.2.1 q2.2.2.1 _ _ _ _ _ _
    generalize stK A ch kd v row t (r + 1) w bf h d = st at *
    have hQ1 := mI1_fr hQ s2 s3
    obtain ⟨μ2, t1, t2, t3, t4⟩ := m_hourPlace s3 hw hst hh hd
    have hQ2 := mI1_fr hQ1 t2 t3
    obtain ⟨v6, v7, v8, -⟩ := m_at t3 hw hst hh hd t4
    have l32 : gI μ2 0 32 = bI aw := hQ2.2.2.2.2.2.2.2.2.1
    have hx := hP_lt hw hst hh hd
    generalize hP w st h d = x at *
    have ibx : ib (nI x) 4800 = true := ib_nI hx (by omega)
    have tnx : (nI x).toNatClampNeg = x := nI_tn (by omega)
    rw [s1, bd_some, t1, bd_some]
    unfold f_X12_meanAnew_111
    simp only [ibx, tnx, gd_true, v6, v7, v8, l32, gN_pos b, bI_0, nI_1]
    by_cases qa : hAw A w st h d = true
    · rw [if_neg (by rw [qa]; simp), if_pos qa]
      refine ⟨μ2, ?_, mFm_trans (mFm_of s2) (mFm_of t2), hQ2⟩
      cases aw <;> rfl
    · rw [if_pos qa, if_neg qa]
      have hHH := hHe_le A w st hh d
      have hDD := hDu_le A w st h hd
      have hle := hMe_le b w st h d
      have eg : gN A w st h d = nI (hMe A w st h d) := if_neg qa
      obtain ⟨μ', u1, u2, u3⟩ := m_behind hrc hQ2 (t := t + 1) (w := w) (h := hHe A w st h d) (d := hDu A w st h d) htr hw (by omega) (by omega)
      refine ⟨μ', ?_, mFm_trans (mFm_trans (mFm_of s2) (mFm_of t2)) u2, u3⟩
      rw [u1, bd_some, bd_some, eg, show (1000 : Int64) = lN 1000 from rfl, nI_l (by omega), lN_mul, lN_add, show (0 : Int64) = lN 0 from rfl, lN_add]
      cases aw <;> rfl
theorem m_meanFromN : ∀ (r : Nat) (fu : Nat), r < fu → 0 < r → rcN k A J ch kd v row ru dz aw n K r (fx6 f_X12_meanFrom_F fu) := by
  intro r
  induction r with
  | zero => intro fu hf h0; omega
  | succ r ih =>
    intro fu hf _ τ t w bf h d hτ htr hw hb hh hd
    obtain ⟨fu, rfl⟩ : ∃ z, fu = z + 1 := ⟨fu - 1, by omega⟩
    have hrc := fun h0 => ih fu (by omega) h0
    obtain ⟨q1, q2, q3, q4, q5, q6, q7, q8, q9, q10, q11, q12⟩ := id hτ
    have hx := ixM_lt (show t < 6 by omega) hw hb hh hd
    have ex : ((((((((6 : Int32) * nI t) + nI w) * (6 : Int32)) + nI bf) * (10 : Int32)) + nI h) * (10 : Int32)) + nI d = nI (ixM t w bf h d) := by
      have e : (((6 * t + w) * 6 + bf) * 10 + h) * 10 + d = ixM t w bf h d := by
        unfold ixM
        omega
      rw [← e]
      simp only [li, pk_mul, nI_add]
    have ibx : ib (nI (ixM t w bf h d)) 21600 = true := ib_nI hx (by omega)
    have tnx : (nI (ixM t w bf h d)).toNatClampNeg = ixM t w bf h d := nI_tn (by omega)
    show ∃ τ', f_X12_meanFrom_F (fx6 f_X12_meanFrom_F fu) _ _ _ _ _ _ = _ ∧ _
    have start : f_X12_meanFrom_F (fx6 f_X12_meanFrom_F fu) (nI t) (nI w) (nI bf) (nI h) (nI d) τ = if gI τ 11 (ixM t w bf h d) = nI K then some (gL τ 13 (ixM t w bf h d), τ) else
        bd (f_X12_meanAnew (fx6 f_X12_meanFrom_F fu) (nI t) (nI w) (nI bf) (nI h) (nI d) τ) fun r_5 σ_6 => lt (sI σ_6 11 (ixM t w bf h d) (gI σ_6 0 26)) fun σ_8 => lt (sL σ_8 13 (ixM t w bf h d) r_5) fun σ_10 => some (gL σ_10 13 (ixM t w bf h d), σ_10) := by
      generalize fx6 f_X12_meanFrom_F fu = kk
      unfold f_X12_meanFrom_F
      rw [ex, lt_eq]
      simp only [ibx, tnx, gd_true, q10]
    rw [start]
    by_cases q : gI τ 11 (ixM t w bf h d) = nI K
    · rw [if_pos q, q11 t w bf h d (by omega) hw hb hh hd q, show n - t = r + 1 by omega]
      exact ⟨τ, rfl, mFm_refl _ _, hτ⟩
    · rw [if_neg q]
      obtain ⟨ν, g1, g2, g3⟩ := m_meanAnew (r := r) hrc hτ (t := t) (w := w) (bf := bf) (h := h) (d := d) (by omega) hw hb hh hd
      rw [g1, bd_some]
      obtain ⟨p1, p2, p3, p4, p5, p6, p7, p8, p9, p10, p11, p12⟩ := id g3
      have hfm : mFm J ν (sL (sI ν 11 (ixM t w bf h d) (nI K)) 13 (ixM t w bf h d) (lN (mMe A ch (stK A ch kd v row) dz aw (r + 1) t w bf h d))) := by
        refine ⟨fun c hc => ?_, fun j hj => ?_, fun i hi => ?_⟩
        · rw [gIrL, gIr _ _ _ (by omega)]
        · rw [gI_sL, gI_sc _ _ _ _ (by omega)]
        · rw [gI_sL, gI_sc _ _ _ _ (by omega)]
          exact hi
      refine ⟨sL (sI ν 11 (ixM t w bf h d) (nI K)) 13 (ixM t w bf h d) (lN (mMe A ch (stK A ch kd v row) dz aw (r + 1) t w bf h d)), ?_, mFm_trans g2 hfm, ?_⟩
      · rw [lt_eq, lt_eq, p10, gL_ss]
      · obtain ⟨⟨i1, i2, i3⟩, i4, i5, i6, i7, i8, i9, i10, i11⟩ := p1
        have e0 := hfm.2.1
        refine ⟨⟨⟨i1, i2, i3⟩, by rw [hfm.1 1 (by omega)]; exact i4, by rw [hfm.1 1 (by omega)]; exact i5, by rw [e0 25 (by omega)]; exact i6, fun w i a b => by rw [hfm.1 1 (by omega)]; exact i7 w i a b, ?_, ?_, fun i hi => by rw [gI_sL, gI_sc _ _ _ _ (by omega)]; exact i10 i hi, fun i hi => by rw [gI_sL, gI_sc _ _ _ _ (by omega)]; exact i11 i hi⟩, by rw [hfm.1 1 (by omega)]; exact p2, p3, by rw [e0 27 (by omega)]; exact p4, by rw [e0 28 (by omega)]; exact p5, by rw [e0 29 (by omega)]; exact p6, by rw [e0 30 (by omega)]; exact p7, by rw [e0 31 (by omega)]; exact p8, by rw [e0 32 (by omega)]; exact p9, by rw [e0 26 (by omega)]; exact p10, ?_, fun i hi => ?_⟩
        · intro w st h d a1 a2 a3 a4 a5
          rw [gI_sL, gI_sc _ _ _ _ (by omega)] at a5
          rw [gI_sL, gI_sL, gI_sL, gI_sL, gI_sc _ _ _ _ (by omega), gI_sc _ _ _ _ (by omega), gI_sc _ _ _ _ (by omega), gI_sc _ _ _ _ (by omega)]
          exact i8 w st h d a1 a2 a3 a4 a5
        · intro n' w' h' d' a1 a2 a3 a4 a5
          rw [gI_sL, gI_sc _ _ _ _ (by omega)] at a5
          rw [gL_sc _ _ _ _ (by omega), gL_sI]
          exact i9 n' w' h' d' a1 a2 a3 a4 a5
        · intro t' w' bf' h' d' a1 a2 a3 a4 a5 a6
          by_cases e : ixM t' w' bf' h' d' = ixM t w bf h d
          · obtain ⟨rfl, rfl, rfl, rfl, rfl⟩ := ixM_inj e hw hb hh hd a2 a3 a4 a5
            rw [gL_ss, show n - t' = r + 1 by omega]
          · rw [gI_sL, gI_sk _ _ _ e] at a6
            rw [gL_sk _ _ _ e, gL_sI]
            exact p11 t' w' bf' h' d' a1 a2 a3 a4 a5 a6
        · rw [gI_sL]
          by_cases e : i = ixM t w bf h d
          · rw [e, gI_ss]
            exact ⟨K, Nat.le_refl _, rfl⟩
          · rw [gI_sk _ _ _ e]
            exact p12 i hi
theorem m_meanBy {aw : Bool} {p7 : Int32} (hp7 : p7 = bI aw) {μ : Mem} (hQ : mI0 k A J ch μ) (hS : mSt kd v row ru (gI μ 1)) {n w h d K : Nat} (hn0 : 0 < n) (hn : n ≤ 6) (hw : w < 6) (hh : h < 10) (hd : d < 10) (hK : K < 5000) (h26 : gI μ 0 26 = nI K) (h11 : ∀ i, i < 21600 → le_ (gI μ 11 i) K) (h7 : gI μ 1 7 = nI h) (h8 : gI μ 1 8 = nI d) :
    ∃ μ', f_X12_meanBy (nI kd) (nI v) ru (nI n) (nI w) dz p7 μ = some (lN (mMe A ch (stK A ch kd v row) dz aw n 0 w w h d), μ') ∧ (∀ c, (c = 1 ∨ c = 2 ∨ c = 14 ∨ c = 15) → gI μ' c = gI μ c) ∧ (∀ j, (j < 11 ∨ 15 < j) → j ≠ 26 → (j < 27 ∨ 32 < j) → gI μ' 0 j = gI μ 0 j) ∧ mI0 k A J ch μ' ∧ gI μ' 0 26 = nI (K + 1) ∧ ∀ i, i < 21600 → le_ (gI μ' 11 i) (K + 1) := by
  subst hp7
  obtain ⟨τ, hτ⟩ : ∃ τ, τ = sI (sI (sI (sI (sI (sI (sI μ 0 27 (nI kd)) 0 28 (nI v)) 0 29 ru) 0 30 (nI n)) 0 31 dz) 0 32 (bI aw)) 0 26 (nI (K + 1)) := ⟨_, rfl⟩
  have r0 : ∀ c, c ≠ 0 → gI τ c = gI μ c := fun c hc => by rw [hτ]; simp (disch := omega) only [gIr, gIrL]
  have rj : ∀ j, j ≠ 26 → (j < 27 ∨ 32 < j) → gI τ 0 j = gI μ 0 j := fun j h1 h2 => by rw [hτ]; simp (disch := omega) only [gI_ss, gI_sk, gI_sc]
  have rL : τ.2 = μ.2 := by rw [hτ]; rfl
  have hQt : mI0 k A J ch τ := by
    obtain ⟨⟨i1, i2, i3⟩, i4, i5, i6, i7, i8, i9, i10, i11⟩ := hQ
    refine ⟨⟨i1, i2, i3⟩, by rw [r0 1 (by omega)]; exact i4, by rw [r0 1 (by omega)]; exact i5, by rw [rj 25 (by omega) (by omega)]; exact i6, fun w i a b => by rw [r0 1 (by omega)]; exact i7 w i a b, ?_, ?_, fun i hi => by rw [r0 5 (by omega)]; exact i10 i hi, fun i hi => by rw [r0 10 (by omega)]; exact i11 i hi⟩
    · intro w st h d a1 a2 a3 a4 a5
      rw [r0 5 (by omega)] at a5
      rw [r0 6 (by omega), r0 7 (by omega), r0 8 (by omega), r0 9 (by omega)]
      exact i8 w st h d a1 a2 a3 a4 a5
    · intro n' w' h' d' a1 a2 a3 a4 a5
      rw [r0 10 (by omega)] at a5
      rw [gL_of2 rL]
      exact i9 n' w' h' d' a1 a2 a3 a4 a5
  have hI1 : mI1 k A J ch kd v row ru dz aw n (K + 1) τ := by
    refine ⟨hQt, by rw [r0 1 (by omega)]; exact hS, hn, by rw [hτ]; simp (disch := omega) only [gI_ss, gI_sk, gI_sc], by rw [hτ]; simp (disch := omega) only [gI_ss, gI_sk, gI_sc], by rw [hτ]; simp (disch := omega) only [gI_ss, gI_sk, gI_sc], by rw [hτ]; simp (disch := omega) only [gI_ss, gI_sk, gI_sc], by rw [hτ]; simp (disch := omega) only [gI_ss, gI_sk, gI_sc], by rw [hτ]; simp (disch := omega) only [gI_ss, gI_sk, gI_sc], by rw [hτ]; simp (disch := omega) only [gI_ss, gI_sk, gI_sc], ?_, fun i hi => by rw [r0 11 (by omega)]; exact le_mono (h11 i hi) (by omega)⟩
    intro t w bf h d a1 a2 a3 a4 a5 a6
    exfalso
    rw [r0 11 (by omega)] at a6
    obtain ⟨j, hj, ej⟩ := h11 (ixM t w bf h d) (ixM_lt (by omega) a2 a3 a4 a5)
    rw [ej] at a6
    have := nI_inj (by omega) (by omega) a6
    omega
  obtain ⟨μ', u1, u2, u3⟩ := m_meanFromN n 16 (by omega) hn0 τ 0 w w h d hI1 (by omega) hw hw hh hd
  have u1 : f_X12_meanFrom (0 : Int32) (nI w) (nI w) (nI h) (nI d) τ = some (lN (mMe A ch (stK A ch kd v row) dz aw n 0 w w h d), μ') := u1
  refine ⟨μ', ?_, fun c hc => (u2.1 c hc).trans (r0 c (by omega)), fun j h1 h2 h3 => (u2.2.1 j h1).trans (rj j h2 h3), u3.1, u3.2.2.2.2.2.2.2.2.2.1, u3.2.2.2.2.2.2.2.2.2.2.2⟩
  have e26 : gI (sI (sI (sI (sI (sI (sI μ 0 27 (nI kd)) 0 28 (nI v)) 0 29 ru) 0 30 (nI n)) 0 31 dz) 0 32 (bI aw)) 0 26 = nI K := by simp (disch := omega) only [gI_ss, gI_sk, gI_sc]; exact h26
  unfold f_X12_meanBy
  simp only [lt_eq, bI_iz, gd_true, e26, nI_1]
  rw [← hτ, r0 1 (by omega), h7, h8, u1, bd_some]
end MMEAN
