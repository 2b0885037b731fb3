/-! THE PLANNER of the class: best -/
theorem gF_congr {ok ok' : Nat → Bool} {m m' : Nat → Nat} : ∀ {n : Nat}, (∀ i, i < n → ok i = ok' i) → (∀ i, i < n → m i = m' i) → gF ok m n = gF ok' m' n
  | 0, _, _ => rfl
  | n + 1, h1, h2 => by
    have ih := gF_congr (n := n) (fun i hi => h1 i (by omega)) (fun i hi => h2 i (by omega))
    have e1 := h1 n (by omega)
    have e2 := h2 n (by omega)
    cases e : gF ok m n with
    | none =>
      by_cases q : ok n = true
      · rw [gF_ns e q, gF_ns (ih.symm.trans e) (e1.symm.trans q)]
      · have q := Bool.eq_false_iff.mpr q
        rw [gF_nn e q, gF_nn (ih.symm.trans e) (e1.symm.trans q)]
    | some b =>
      have hb := gF_lt _ _ _ _ e
      have e3 := h2 b (by omega)
      by_cases q : ok n = true ∧ m b < m n
      · rw [gF_sn e q.1 q.2, gF_sn (ih.symm.trans e) (e1.symm.trans q.1) (by rw [← e2, ← e3]; exact q.2)]
      · rw [gF_so e q, gF_so (ih.symm.trans e) (by rw [← e1, ← e2, ← e3]; exact q)]
theorem gF_skip {ok : Nat → Bool} {m : Nat → Nat} {n : Nat} (q : ok n = false) : gF ok m (n + 1) = gF ok m n := by
  cases e : gF ok m n with
  | none => exact gF_nn e q
  | some b => exact gF_so e (by rw [q]; exact fun z => absurd z.1 (by decide))
def eX (m : Nat → Nat) : Option Nat → Int32
  | none => -1
  | some b => nI (m b)
theorem nI_lem1 {n : Nat} (h : n < 2 ^ 31) : ¬ nI n ≤ -1 := fun q => absurd (Int32.lt_of_le_of_lt q (by decide : (-1 : Int32) < 0)) (nI_pos h)
theorem m1_le {n : Nat} (h : n < 2 ^ 31) : (-1 : Int32) ≤ nI n := Int32.le_trans (by decide : (-1 : Int32) ≤ 0) (nI_pos' h)
theorem im_mo {k : Nat} (hk : k < 5) : im (nI (mo k)) = true := by
  have : ∀ q : Fin 5, im (nI (mo q.val)) = true := by decide
  exact this ⟨k, hk⟩
theorem tn_mo {k : Nat} (hk : k < 5) : (nI (mo k)).toNatClampNeg = mo k := nI_tn (by unfold mo; omega)
def cI0 (M : Nat) (Am : Nat → Mil) (k J : Nat) (ch : Nat → Nat → Nat) (σ : Mem) : Prop := (M ≤ 5 ∧ k < M ∧ J < 1000 ∧ chO ch) ∧ (∀ j, j < M → cM (gI σ) j (Am j)) ∧ (∀ j, j < M → cHours (gI σ) j (Am j)) ∧ gI σ 41 6 = nI (mo k) ∧ gI σ 41 7 = nI 5 ∧ gI σ 41 4 = nI J ∧ cBest (gI σ) J (Am k) ch ∧ (∀ w i, w < 6 → i < 6 → gI σ 6 (6 * w + i) = nI (ch w i)) ∧ ∀ i, i < 4200 → le_ (gI σ 43 i) J
def cFr (M : Nat) (σ σ' : Mem) : Prop := (∀ c, c < 48 → c ≠ 42 → c ≠ 43 → gI σ' c = gI σ c) ∧ ∀ j, j < M → gI σ' (mo j) = gI σ (mo j) ∧ ∀ i, 1 ≤ i → i ≤ 4 → gI σ' (mo j + i) = gI σ (mo j + i)
theorem cFr_refl (M : Nat) (σ : Mem) : cFr M σ σ := ⟨fun _ _ _ _ => rfl, fun _ _ => ⟨rfl, fun _ _ _ => rfl⟩⟩
theorem cFr_trans {M : Nat} {σ τ υ : Mem} (h1 : cFr M σ τ) (h2 : cFr M τ υ) : cFr M σ υ := ⟨fun c a b d => (h2.1 c a b d).trans (h1.1 c a b d), fun j hj => ⟨(h2.2 j hj).1.trans (h1.2 j hj).1, fun i a b => ((h2.2 j hj).2 i a b).trans ((h1.2 j hj).2 i a b)⟩⟩
section PLAN
variable {M : Nat} {Am : Nat → Mil} {k J : Nat} {ch : Nat → Nat → Nat}
theorem c_hb {σ : Mem} (hQ : cI0 M Am k J ch σ) {w st h d : Nat} (hw : w < 6) (hs : st < 8) (hh : h < 10) (hd : d < 10) : ∃ σ', f_X3_hourBy (mo k) (nI w) (nI st) (nI h) (nI d) σ = some (nI (hI (Am k) w st h d), σ') ∧ cFr M σ σ' ∧ cI0 M Am k J ch σ' := by
  obtain ⟨⟨i1, i2, i3, i4⟩, i5, i6, i7, i8, i9, i10, i11, i12⟩ := hQ
  obtain ⟨σ', s1, s2, s3⟩ := c_hourBy (i5 k i2) (i6 k i2) hw hs hh hd
  obtain ⟨o1, o2⟩ := one_mill i6 (a' := gI σ') (fun c _ => s2 c) s3
  have u : ∀ c, c < 48 → gI σ' c = gI σ c := fun c hc => s2 c (by unfold mo; omega) (by unfold mo; omega)
  refine ⟨σ', s1, ⟨fun c hc _ _ => u c hc, o1⟩, ⟨i1, i2, i3, i4⟩, fun j hj => cM_c (i5 j hj) (fun x _ _ => by rw [(o1 j hj).1]) (o1 j hj).2, o2, by rw [u 41 (by omega)]; exact i7, by rw [u 41 (by omega)]; exact i8, by rw [u 41 (by omega)]; exact i9, ?_, fun w i hw hi => by rw [u 6 (by omega)]; exact i11 w i hw hi, fun i hi => by rw [u 43 (by omega)]; exact i12 i hi⟩
  intro n w h d q1 q2 q3 q4 q5 q6
  rw [u 43 (by omega)] at q6
  rw [u 42 (by omega)]
  exact i10 n w h d q1 q2 q3 q4 q5 q6
theorem c_ch {σ : Mem} (hQ : cI0 M Am k J ch σ) {w i : Nat} (hw : w < 6) (hi : i < 6) : f_X10_chanceOf (nI w) (nI i) σ = some (nI (ch w i), σ) := by
  rw [c_chanceOf hw hi, hQ.2.2.2.2.2.2.2.1 w i hw hi]
theorem c_mostMeal {σ : Mem} (hQ : cI0 M Am k J ch σ) {w h d am : Nat} (hw : w < 6) (hh : h < 10) (hd : d < 10) (ha : am < 256) : ∃ σ', f_X5_mostMeal (nI w) (nI h) (nI d) (nI am) σ = some (nI (oD (gF (okW (Am k) (fun st => am.testBit st) w h d) (fun st => hMe (Am k) w st h d) 8)), σ') ∧ cFr M σ σ' ∧ cI0 M Am k J ch σ' := by
  obtain ⟨ok, hok⟩ : ∃ ok, ok = okW (Am k) (fun st => am.testBit st) w h d := ⟨_, rfl⟩
  obtain ⟨me, hme⟩ : ∃ me : Nat → Nat, me = fun st => hMe (Am k) w st h d := ⟨_, rfl⟩
  rw [← hok, ← hme]
  have hk5 : k < 5 := by have := hQ.1; omega
  have b := (hQ.2.1 k hQ.1.2.1).1
  have key : ∀ m i fu : Nat, ∀ τ : Mem, i + m = 8 → m < fu → cI0 M Am k J ch τ → ∃ σ', fx8 f_X5_mostMeal_9 fu (nI w) (nI h) (nI d) (nI am) (eX me (gF ok me i)) (nI (oD (gF ok me i))) (nI i) τ = some (nI (oD (gF ok me 8)), σ') ∧ cFr M τ σ' ∧ cI0 M Am k J ch σ' := by
    intro m
    induction m with
    | zero =>
      intro i fu τ hi hf ht
      obtain ⟨fu, rfl⟩ : ∃ z, fu = z + 1 := ⟨fu - 1, by omega⟩
      have hi : i = 8 := by omega
      subst hi
      refine ⟨τ, ?_, cFr_refl _ _, ht⟩
      show f_X5_mostMeal_9 _ _ _ _ _ _ _ _ _ = _
      unfold f_X5_mostMeal_9
      exact if_pos (by decide)
    | succ m ih =>
      intro i fu τ hi hf ht
      obtain ⟨fu, rfl⟩ : ∃ z, fu = z + 1 := ⟨fu - 1, by omega⟩
      obtain ⟨τ', t1, t2, t3⟩ := c_hb ht hw (show i < 8 by omega) hh hd
      obtain ⟨σ', u1, u2, u3⟩ := ih (i + 1) fu τ' (by omega) (by omega) t3
      refine ⟨σ', ?_, cFr_trans t2 u2, u3⟩
      rw [← u1]
      have l41 : gI τ 41 6 = nI (mo k) := ht.2.2.2.1
      have hle := hMe_le b w i h d
      have e5 : ok i = (am.testBit i && (!hBu (Am k) w i h d && !hAw (Am k) w i h d)) := by rw [hok]; rfl
      have em : me i = hMe (Am k) w i h d := by rw [hme]
      show f_X5_mostMeal_9 (fx8 f_X5_mostMeal_9 fu) _ _ _ _ _ _ _ _ = _
      generalize fx8 f_X5_mostMeal_9 fu = kk
      have skip : ok i = false → f_X5_mostMeal_62 kk (nI w) (nI h) (nI d) (nI am) (eX me (gF ok me i)) (nI (oD (gF ok me i))) (nI i) (nI (hI (Am k) w i h d)) (0 : Int32) τ' = kk (nI w) (nI h) (nI d) (nI am) (eX me (gF ok me (i + 1))) (nI (oD (gF ok me (i + 1)))) (nI (i + 1)) τ' := by
        intro q
        rw [gF_skip q]
        unfold f_X5_mostMeal_62 f_X5_mostMeal_90
        rw [if_pos rfl, lt_eq, nI_1]
      unfold f_X5_mostMeal_9
      rw [if_neg (show ¬ (8 : Int32) ≤ nI i from nI_ge (a := i) (b := 8) (by omega) (by omega)), l41, im_mo hk5, gd_true, tn_mo hk5, t1, bd_some]
      by_cases q1 : am.testBit i = true
      · rw [if_pos (show ((nI am >>> (nI i &&& (31 : Int32))) &&& (1 : Int32)) = (1 : Int32) from (bit_ (by omega) (by omega)).mpr q1), c_isBurnt b w i hh hd, bd_some]
        by_cases q2 : hBu (Am k) w i h d = true
        · rw [if_neg (by rw [q2]; decide)]
          exact skip (by rw [e5, q1, q2]; rfl)
        · have q2 := Bool.eq_false_iff.mpr q2
          rw [if_pos (by rw [q2]; rfl), c_isAway b w i hh hd, bd_some]
          by_cases q3 : hAw (Am k) w i h d = true
          · rw [if_neg (by rw [q3]; decide)]
            exact skip (by rw [e5, q1, q2, q3]; rfl)
          · have q3 := Bool.eq_false_iff.mpr q3
            rw [if_pos (by rw [q3]; rfl)]
            have q : ok i = true := by rw [e5, q1, q2, q3]; rfl
            unfold f_X5_mostMeal_62 f_X5_mostMeal_90
            rw [if_neg (by decide), c_mealOf b w i hh hd, bd_some]
            cases e : gF ok me i with
            | none =>
              rw [if_neg (show ¬ nI (hMe (Am k) w i h d) ≤ eX me none from nI_lem1 (by omega)), c_mealOf b w i hh hd, bd_some, gF_ns e q, lt_eq, nI_1]
              show kk _ _ _ _ (nI (hMe (Am k) w i h d)) _ _ _ = kk _ _ _ _ (nI (me i)) _ _ _
              rw [em]
              rfl
            | some x =>
              have hx : me x ≤ 990 := by rw [hme]; exact hMe_le b w x h d
              by_cases q5 : hMe (Am k) w i h d ≤ me x
              · rw [if_pos (show nI (hMe (Am k) w i h d) ≤ eX me (some x) from nI_le q5 (by omega)), gF_so e (by rw [em]; omega), lt_eq, nI_1]
              · rw [if_neg (show ¬ nI (hMe (Am k) w i h d) ≤ eX me (some x) from nI_ge (by omega) (by omega)), c_mealOf b w i hh hd, bd_some, gF_sn e q (by rw [em]; omega), lt_eq, nI_1]
                show kk _ _ _ _ (nI (hMe (Am k) w i h d)) _ _ _ = kk _ _ _ _ (nI (me i)) _ _ _
                rw [em]
                rfl
      · rw [if_neg (show ¬ ((nI am >>> (nI i &&& (31 : Int32))) &&& (1 : Int32)) = (1 : Int32) from fun z => q1 ((bit_ (by omega) (by omega)).mp z))]
        exact skip (by rw [e5, Bool.eq_false_iff.mpr q1]; rfl)
  have hF : 8 < FU := by decide
  exact key 8 0 FU σ (by omega) hF hQ
def bC (A : Mil) (ch : Nat → Nat → Nat) (n w h d : Nat) : Nat := if n = 0 then 0 else 8 * bBe A ch n w h d + bSt A ch (n - 1) w h d
theorem bC_div (A : Mil) (ch : Nat → Nat → Nat) (n w h d : Nat) : bC A ch n w h d / 8 = bBe A ch n w h d := by
  unfold bC
  split
  · rename_i e
    subst e
    rfl
  · have := bSt_lt A ch (n - 1) w h d
    generalize bSt A ch (n - 1) w h d = x at *
    generalize bBe A ch n w h d = y
    omega
theorem bC_mod {A : Mil} {ch : Nat → Nat → Nat} {n : Nat} (hn : 0 < n) (w h d : Nat) : bC A ch n w h d % 8 = bSt A ch (n - 1) w h d := by
  unfold bC
  rw [if_neg (by omega)]
  have := bSt_lt A ch (n - 1) w h d
  generalize bSt A ch (n - 1) w h d = x at *
  generalize bBe A ch n w h d = y
  omega
theorem bC_le {A : Mil} (b : ∀ kd sg, A.1 kd sg ≤ 990) {ch : Nat → Nat → Nat} (hc : chO ch) {n w : Nat} (hn : n ≤ 6) (hw : w < 6) (h d : Nat) : bC A ch n w h d < 50000000 := by
  have h1 := bC_div A ch n w h d
  have h2 := bBe_le b hc n w h d hw
  have h3 : n * 1000000 ≤ 6000000 := by omega
  generalize bBe A ch n w h d = y at *
  generalize bC A ch n w h d = x at *
  omega
/-- what a road to best tells -/
def rcB (M : Nat) (Am : Nat → Mil) (k J : Nat) (ch : Nat → Nat → Nat) (n : Nat) (rc : Int32 → Int32 → Int32 → Int32 → Mem → Option (Int32 × Mem)) : Prop := ∀ (τ : Mem) (w h d : Nat), cI0 M Am k J ch τ → w < 6 → h < 10 → d < 10 → ∃ τ', rc (nI n) (nI w) (nI h) (nI d) τ = some (nI (bC (Am k) ch n w h d), τ') ∧ cFr M τ τ' ∧ cI0 M Am k J ch τ'
theorem c_worthOf {rc : Int32 → Int32 → Int32 → Int32 → Mem → Option (Int32 × Mem)} {n : Nat} (hn1 : 1 ≤ n) (hn : n ≤ 6) (hrc : 1 < n → rcB M Am k J ch (n - 1) rc) {σ : Mem} (hQ : cI0 M Am k J ch σ) {w st h d : Nat} (hw : w < 6) (hs : st < 8) (hh : h < 10) (hd : d < 10) : ∃ σ', f_X5_worthOf rc (nI n) (nI w) (nI st) (nI h) (nI d) σ = some (nI (bWo (Am k) ch (bBe (Am k) ch (n - 1)) w st h d), σ') ∧ cFr M σ σ' ∧ cI0 M Am k J ch σ' := by
  have hk5 : k < 5 := by have := hQ.1; omega
  have b := (hQ.2.1 k hQ.1.2.1).1
  have hch := hQ.1.2.2.2
  have l41 : gI σ 41 6 = nI (mo k) := hQ.2.2.2.1
  obtain ⟨τ0, t1, t2, t3⟩ := c_hb hQ hw hs hh hd
  have hH := hHe_le (Am k) w st hh d
  have hD := hDu_le (Am k) w st h hd
  have hle := hMe_le b w st h d
  unfold f_X5_worthOf
  rw [l41, im_mo hk5, gd_true, tn_mo hk5, t1, bd_some, c_isAway b w st hh hd, bd_some]
  by_cases qa : hAw (Am k) w st h d = true
  · rw [if_neg (by rw [qa]; decide)]
    refine ⟨τ0, ?_, t2, t3⟩
    unfold bWo
    rw [if_pos qa]
    rfl
  · rw [if_pos (by rw [Bool.eq_false_iff.mpr qa]; rfl)]
    have ew : bWo (Am k) ch (bBe (Am k) ch (n - 1)) w st h d = 1000 * hMe (Am k) w st h d + sum6 (fun i => ch w i * bBe (Am k) ch (n - 1) i (hHe (Am k) w st h d) (hDu (Am k) w st h d)) / 1000 := if_neg qa
    obtain ⟨g, hg⟩ : ∃ g : Nat → Nat, g = fun i => bBe (Am k) ch (n - 1) i (hHe (Am k) w st h d) (hDu (Am k) w st h d) := ⟨_, rfl⟩
    have hgi : ∀ i, bBe (Am k) ch (n - 1) i (hHe (Am k) w st h d) (hDu (Am k) w st h d) = g i := fun i => by rw [hg]
    have ew : bWo (Am k) ch (bBe (Am k) ch (n - 1)) w st h d = 1000 * hMe (Am k) w st h d + sum6 (fun i => ch w i * g i) / 1000 := by rw [ew, hg]
    have hgb : ∀ i, i < 6 → g i ≤ 5000000 := fun i hi => by
      rw [← hgi]
      have := bBe_le b hch (n - 1) i (hHe (Am k) w st h d) (hDu (Am k) w st h d) hi
      exact Nat.le_trans this (by omega)
    have hsum := (bh_le hch hw hgb).1
    have hquo := (bh_le hch hw hgb).2
    have stop : ∀ τ, f_X5_worthOf_102 rc (nI (hI (Am k) w st h d)) (lN (sum6 (fun i => ch w i * g i))) τ = some (nI (bWo (Am k) ch (bBe (Am k) ch (n - 1)) w st h d), τ) := by
      intro τ
      unfold f_X5_worthOf_102
      rw [c_mealOf b w st hh hd, bd_some, show (1000 : Int64) = lN 1000 from rfl, lNdiv (by omega) (by omega), lN_i, show (1000 : Int32) = nI 1000 from rfl, pk_mul, nI_add, ew, Nat.mul_comm]
    by_cases q1 : n = 1
    · refine ⟨τ0, ?_, t2, t3⟩
      have e0 : sum6 (fun i => ch w i * g i) = 0 := by
        rw [hg, q1]
        rfl
      have s := stop τ0
      rw [e0] at s
      rw [← s]
      obtain ⟨fu, hfu⟩ : ∃ fu, FU = fu + 1 := ⟨5999, rfl⟩
      rw [hfu]
      show f_X5_worthOf_31 rc (fx6 (f_X5_worthOf_31 rc) fu) _ _ _ _ _ _ = _
      generalize fx6 (f_X5_worthOf_31 rc) fu = kk
      unfold f_X5_worthOf_31
      rw [if_neg (by decide), q1, if_pos (by decide)]
      rfl
    · have key : ∀ m i fu : Nat, ∀ τ : Mem, i + m = 6 → m < fu → cI0 M Am k J ch τ → ∃ σ', fx6 (f_X5_worthOf_31 rc) fu (nI n) (nI w) (nI (hI (Am k) w st h d)) (lN (sumN (fun i => ch w i * g i) i)) (nI i) τ = some (nI (bWo (Am k) ch (bBe (Am k) ch (n - 1)) w st h d), σ') ∧ cFr M τ σ' ∧ cI0 M Am k J ch σ' := by
        intro m
        induction m with
        | zero =>
          intro i fu τ hi hf ht
          obtain ⟨fu, rfl⟩ : ∃ z, fu = z + 1 := ⟨fu - 1, by omega⟩
          have hi : i = 6 := by omega
          subst hi
          refine ⟨τ, ?_, cFr_refl _ _, ht⟩
          rw [sumN_6, ← stop τ]
          show f_X5_worthOf_31 rc _ _ _ _ _ _ _ = _
          unfold f_X5_worthOf_31
          exact if_pos (by decide)
        | succ m ih =>
          intro i fu τ hi hf ht
          obtain ⟨fu, rfl⟩ : ∃ z, fu = z + 1 := ⟨fu - 1, by omega⟩
          have hcl := chO_le hch hw (show i < 6 by omega)
          have es : sumN (fun i => ch w i * g i) (i + 1) = sumN (fun i => ch w i * g i) i + ch w i * g i := rfl
          have l7 : gI τ 41 7 = nI 5 := ht.2.2.2.2.1
          have hd7 : decide (gI τ 41 7 = nI 5) = true := decide_eq_true l7
          by_cases q0 : ch w i = 0
          · obtain ⟨σ', u1, u2, u3⟩ := ih (i + 1) fu τ (by omega) (by omega) ht
            refine ⟨σ', ?_, u2, u3⟩
            have es0 : sumN (fun i => ch w i * g i) (i + 1) = sumN (fun i => ch w i * g i) i := by
              rw [es, q0, Nat.zero_mul]
              rfl
            rw [← u1, es0]
            show f_X5_worthOf_31 rc (fx6 (f_X5_worthOf_31 rc) fu) _ _ _ _ _ _ = _
            generalize fx6 (f_X5_worthOf_31 rc) fu = kk
            unfold f_X5_worthOf_31 f_X5_worthOf_96
            rw [if_neg (show ¬ (6 : Int32) ≤ nI i from nI_ge (a := i) (b := 6) (by omega) (by omega)), if_neg (show ¬ nI n ≤ (1 : Int32) from nI_ge (a := 1) (b := n) (by omega) (by omega)), hd7, gd_true, c_ch ht hw (by omega), bd_some, q0, if_pos (by decide), lt_eq, nI_1]
          · obtain ⟨τ', r1, r2, r3⟩ := hrc (by omega) τ i (hHe (Am k) w st h d) (hDu (Am k) w st h d) ht (by omega) (by omega) (by omega)
            obtain ⟨σ', u1, u2, u3⟩ := ih (i + 1) fu τ' (by omega) (by omega) r3
            refine ⟨σ', ?_, cFr_trans r2 u2, u3⟩
            have hb := bC_le b hch (show n - 1 ≤ 6 by omega) (show i < 6 by omega) (hHe (Am k) w st h d) (hDu (Am k) w st h d)
            have hbd := bC_div (Am k) ch (n - 1) i (hHe (Am k) w st h d) (hDu (Am k) w st h d)
            have hgg := hgb i (by omega)
            rw [← u1, es]
            show f_X5_worthOf_31 rc (fx6 (f_X5_worthOf_31 rc) fu) _ _ _ _ _ _ = _
            generalize fx6 (f_X5_worthOf_31 rc) fu = kk
            unfold f_X5_worthOf_31 f_X5_worthOf_96
            rw [if_neg (show ¬ (6 : Int32) ≤ nI i from nI_ge (a := i) (b := 6) (by omega) (by omega)), if_neg (show ¬ nI n ≤ (1 : Int32) from nI_ge (a := 1) (b := n) (by omega) (by omega)), hd7, gd_true, c_ch ht hw (by omega), bd_some, if_neg (show ¬ nI (ch w i) ≤ 0 from nI_ge (a := 0) (by omega) (by omega)), c_heatOf b w st hh hd, bd_some, c_dullOf b w st hh hd, bd_some]
            rw [show nI n - 1 = nI (n - 1) from by rw [show n = n - 1 + 1 by omega]; exact nI_pred _, r1, bd_some, lt_eq, lt_eq, nI_1]
            rw [show (8 : Int32) = nI 8 from rfl, nIdiv (by omega) (by omega) (by omega), hbd, hgi, nI_l (by omega), nI_l (by omega), lN_mul, lN_add]
      have hF : 6 < FU := by decide
      obtain ⟨σ', u1, u2, u3⟩ := key 6 0 FU τ0 (by omega) hF t3
      exact ⟨σ', u1, cFr_trans t2 u2, u3⟩
def gR (m : Nat → Nat) : Option Nat → Nat
  | none => 0
  | some b => 8 * m b + b
theorem c_greatest {rc : Int32 → Int32 → Int32 → Int32 → Mem → Option (Int32 × Mem)} {n : Nat} (hn1 : 1 ≤ n) (hn : n ≤ 6) (hrc : 1 < n → rcB M Am k J ch (n - 1) rc) {σ : Mem} (hQ : cI0 M Am k J ch σ) {w h d am : Nat} (hw : w < 6) (hh : h < 10) (hd : d < 10) (ha : am < 256) : ∃ σ', f_X5_greatest rc (nI n) (nI w) (nI h) (nI d) (nI am) σ = some (nI (gR (fun st => bWo (Am k) ch (bBe (Am k) ch (n - 1)) w st h d) (gF (fun st => am.testBit st) (fun st => bWo (Am k) ch (bBe (Am k) ch (n - 1)) w st h d) 8)), σ') ∧ cFr M σ σ' ∧ cI0 M Am k J ch σ' := by
  have b := (hQ.2.1 k hQ.1.2.1).1
  have hch := hQ.1.2.2.2
  obtain ⟨ok, hok⟩ : ∃ ok : Nat → Bool, ok = fun st => am.testBit st := ⟨_, rfl⟩
  obtain ⟨me, hme⟩ : ∃ me : Nat → Nat, me = fun st => bWo (Am k) ch (bBe (Am k) ch (n - 1)) w st h d := ⟨_, rfl⟩
  rw [← hok, ← hme]
  have hmb : ∀ st, me st < 10000000 := fun st => by
    rw [hme]
    have := bWo_le b hch (B := bBe (Am k) ch (n - 1)) (X := 5000000) (st := st) (y := h) (d := d) hw (fun i h' d' hi => Nat.le_trans (bBe_le b hch (n - 1) i h' d' hi) (by omega))
    show bWo (Am k) ch (bBe (Am k) ch (n - 1)) w st h d < 10000000
    generalize bWo (Am k) ch (bBe (Am k) ch (n - 1)) w st h d = z at *
    omega
  have key : ∀ m i fu : Nat, ∀ τ : Mem, i + m = 8 → m < fu → cI0 M Am k J ch τ → ∃ σ', fx9 (f_X5_greatest_9 rc) fu (nI n) (nI w) (nI h) (nI d) (nI am) (eX me (gF ok me i)) (nI (oD (gF ok me i))) (nI i) τ = some (nI (gR me (gF ok me 8)), σ') ∧ cFr M τ σ' ∧ cI0 M Am k J ch σ' := by
    intro m
    induction m with
    | zero =>
      intro i fu τ hi hf ht
      obtain ⟨fu, rfl⟩ : ∃ z, fu = z + 1 := ⟨fu - 1, by omega⟩
      have hi : i = 8 := by omega
      subst hi
      refine ⟨τ, ?_, cFr_refl _ _, ht⟩
      show f_X5_greatest_9 rc _ _ _ _ _ _ _ _ _ _ = _
      unfold f_X5_greatest_9
      rw [if_pos (by decide)]
      cases e : gF ok me 8 with
      | none => rfl
      | some x =>
        have := hmb x
        rw [if_pos (show (0 : Int32) ≤ eX me (some x) from nI_pos' (by omega))]
        show some (nI (me x) * 8 + nI x, τ) = some (nI (8 * me x + x), τ)
        rw [show (8 : Int32) = nI 8 from rfl, pk_mul, nI_add, Nat.mul_comm]
    | succ m ih =>
      intro i fu τ hi hf ht
      obtain ⟨fu, rfl⟩ : ∃ z, fu = z + 1 := ⟨fu - 1, by omega⟩
      have hbi := hmb i
      have e5 : ok i = am.testBit i := by rw [hok]
      show ∃ σ', f_X5_greatest_9 rc (fx9 (f_X5_greatest_9 rc) fu) _ _ _ _ _ _ _ _ _ = _ ∧ _
      by_cases q1 : am.testBit i = true
      · obtain ⟨τ', t1, t2, t3⟩ := c_worthOf hn1 hn hrc ht hw (show i < 8 by omega) hh hd
        obtain ⟨σ', u1, u2, u3⟩ := ih (i + 1) fu τ' (by omega) (by omega) t3
        refine ⟨σ', ?_, cFr_trans t2 u2, u3⟩
        rw [← u1]
        have t1 : f_X5_worthOf rc (nI n) (nI w) (nI i) (nI h) (nI d) τ = some (nI (me i), τ') := by rw [t1, hme]
        generalize fx9 (f_X5_greatest_9 rc) fu = kk
        unfold f_X5_greatest_9 f_X5_greatest_42 f_X5_greatest_59
        rw [if_neg (show ¬ (8 : Int32) ≤ nI i from nI_ge (a := i) (b := 8) (by omega) (by omega)), if_pos (show ((nI am >>> (nI i &&& (31 : Int32))) &&& (1 : Int32)) = (1 : Int32) from (bit_ (by omega) (by omega)).mpr q1), t1, bd_some]
        cases e : gF ok me i with
        | none =>
          rw [if_neg (show ¬ nI (me i) ≤ eX me none from nI_lem1 (by omega)), gF_ns e (e5.trans q1), lt_eq, nI_1]
          rfl
        | some x =>
          have hx := hmb x
          by_cases q5 : me i ≤ me x
          · rw [if_pos (show nI (me i) ≤ eX me (some x) from nI_le q5 (by omega)), gF_so e (by omega), lt_eq, nI_1]
          · rw [if_neg (show ¬ nI (me i) ≤ eX me (some x) from nI_ge (by omega) (by omega)), gF_sn e (e5.trans q1) (by omega), lt_eq, nI_1]
            rfl
      · obtain ⟨σ', u1, u2, u3⟩ := ih (i + 1) fu τ (by omega) (by omega) ht
        refine ⟨σ', ?_, u2, u3⟩
        rw [← u1, gF_skip (e5.trans (Bool.eq_false_iff.mpr q1))]
        generalize fx9 (f_X5_greatest_9 rc) fu = kk
        unfold f_X5_greatest_9 f_X5_greatest_42 f_X5_greatest_59
        rw [if_neg (show ¬ (8 : Int32) ≤ nI i from nI_ge (a := i) (b := 8) (by omega) (by omega)), if_neg (show ¬ ((nI am >>> (nI i &&& (31 : Int32))) &&& (1 : Int32)) = (1 : Int32) from fun z => q1 ((bit_ (by omega) (by omega)).mp z))]
        have hl : (-1 : Int32) ≤ eX me (gF ok me i) := by
          cases gF ok me i with
          | none => exact (by decide : (-1 : Int32) ≤ -1)
          | some x =>
            have := hmb x
            exact m1_le (by omega)
        rw [if_pos hl, lt_eq, nI_1]
  have hF : 8 < FU := by decide
  exact key 8 0 FU σ (by omega) hF hQ
end PLAN
