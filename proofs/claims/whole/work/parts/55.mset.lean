/-! THE PLANNER of the model: settings -/
section MSET
variable {k : Nat} {A : Mil} {J : Nat} {ch : Nat → Nat → Nat}
def eN : Option Nat → Int32
  | none => -1
  | some b => nI b
def eZ (m : Nat → Nat) : Option Nat → Nat
  | none => 0
  | some b => m b
theorem eN_1 {x : Option Nat} (h : ∀ b, x = some b → b < 100) : (eN x = -1) = (x = none) := by
  apply propext
  cases x with
  | none => exact ⟨fun _ => rfl, fun _ => rfl⟩
  | some b => exact ⟨fun z => absurd z (nI_m1 (by have := h b rfl; omega)), fun z => by cases z⟩
theorem m_isSafe {μ : Mem} (hQ : mI0 k A J ch μ) {st v h d : Nat} (hs : st < 8) (hv : v < 8) (hh : h < 10) (hd : d < 10) : ∃ μ', f_X12_isSafe (nI st) (nI v) (nI h) (nI d) μ = some (bI (sfB A h d st (min (v + 1) 6)), μ') ∧ mFr J μ μ' ∧ mI0 k A J ch μ' := by
  have b := hQ.2.1.1
  have key : ∀ m w fu : Nat, ∀ τ : Mem, w + m = min (v + 1) 6 → m < fu → mI0 k A J ch τ → ∃ μ', fx7 f_X12_isSafe_6 fu (nI st) (nI v) (nI h) (nI d) (bI (sfB A h d st w)) (nI w) τ = some (bI (sfB A h d st (min (v + 1) 6)), μ') ∧ mFr J τ μ' ∧ mI0 k A J ch μ' := by
    intro m
    induction m with
    | zero =>
      intro w fu τ hi hf ht
      obtain ⟨fu, rfl⟩ : ∃ z, fu = z + 1 := ⟨fu - 1, by omega⟩
      have hi : w = min (v + 1) 6 := by omega
      rw [← hi]
      refine ⟨τ, ?_, mFr_refl _ _, ht⟩
      show f_X12_isSafe_6 (fx7 f_X12_isSafe_6 fu) _ _ _ _ _ _ _ = _
      generalize fx7 f_X12_isSafe_6 fu = kk
      unfold f_X12_isSafe_6
      by_cases q : v < w
      · rw [if_pos (nI_lt q (by omega)), bI_iz, gd_true]
      · rw [if_neg (nI_nlt (by omega) (by omega)), if_pos (show (6 : Int32) ≤ nI w from nI_le (a := 6) (by omega) (by omega)), bI_iz, gd_true]
    | succ m ih =>
      intro w fu τ hi hf ht
      obtain ⟨fu, rfl⟩ : ∃ z, fu = z + 1 := ⟨fu - 1, by omega⟩
      have es : sfB A h d st (w + 1) = (sfB A h d st w && !hAw A w st h d) := rfl
      show ∃ μ', f_X12_isSafe_6 (fx7 f_X12_isSafe_6 fu) _ _ _ _ _ _ _ = _ ∧ _
      by_cases q : sfB A h d st w = true
      · obtain ⟨τ', r1, r2, r3, r4⟩ := m_hourPlace ht (show w < 6 by omega) hs hh hd
        obtain ⟨v6, -⟩ := m_at r3 (show w < 6 by omega) hs hh hd r4
        obtain ⟨μ', u1, u2, u3⟩ := ih (w + 1) fu τ' (by omega) (by omega) r3
        refine ⟨μ', ?_, mFr_trans r2 u2, u3⟩
        rw [← u1, es, q]
        have hx := hP_lt (show w < 6 by omega) hs hh hd
        have ibx : ib (nI (hP w st h d)) 4800 = true := ib_nI hx (by omega)
        have tnx : (nI (hP w st h d)).toNatClampNeg = hP w st h d := nI_tn (by omega)
        generalize fx7 f_X12_isSafe_6 fu = kk
        unfold f_X12_isSafe_6
        rw [if_neg (nI_nlt (by omega) (by omega)), if_neg (show ¬ (6 : Int32) ≤ nI w from nI_ge (a := w) (b := 6) (by omega) (by omega)), if_neg (by decide), r1, bd_some]
        simp only [ibx, tnx, gd_true, v6, gN_neg b]
        by_cases qa : hAw A w st h d = true
        · rw [if_pos qa, qa]
          unfold f_X12_isSafe_46 f_X12_isSafe_47
          rw [lt_eq, nI_1]
          rfl
        · rw [if_neg qa, Bool.eq_false_iff.mpr qa]
          unfold f_X12_isSafe_47
          rw [lt_eq, nI_1]
          rfl
      · obtain ⟨μ', u1, u2, u3⟩ := ih (w + 1) fu τ (by omega) (by omega) ht
        refine ⟨μ', ?_, u2, u3⟩
        have q := Bool.eq_false_iff.mpr q
        rw [← u1, es, q]
        generalize fx7 f_X12_isSafe_6 fu = kk
        unfold f_X12_isSafe_6 f_X12_isSafe_46 f_X12_isSafe_47
        rw [if_neg (nI_nlt (by omega) (by omega)), if_neg (show ¬ (6 : Int32) ≤ nI w from nI_ge (a := w) (b := 6) (by omega) (by omega)), if_pos (by rfl), lt_eq, nI_1]
        rfl
  have hF : 6 < FU := by decide
  exact key (min (v + 1) 6) 0 FU μ (by omega) (by omega) hQ
def okS (A : Mil) (h d : Nat) (sel : Option Nat) (st : Nat) : Bool := match sel with
  | none => true
  | some v => sfB A h d st (min (v + 1) 6)
theorem m_bestSetting {μ : Mem} (hQ : mI0 k A J ch μ) {n w h d : Nat} {sel : Option Nat} (hn1 : 1 ≤ n) (hn : n ≤ 6) (hw : w < 6) (hh : h < 10) (hd : d < 10) (hsel : ∀ v, sel = some v → v < 8) : ∃ μ', f_X12_bestSetting (nI n) (nI w) (nI h) (nI d) (eN sel) μ = some (nI (oD (gF (okS A h d sel) (fun st => bWo A ch (bBe A ch (n - 1)) w st h d) 8)), μ') ∧ mFr J μ μ' ∧ mI0 k A J ch μ' := by
  have b := hQ.2.1.1
  have hch := hQ.1.2.2
  obtain ⟨ok, hok⟩ : ∃ ok, ok = okS A h d sel := ⟨_, rfl⟩
  obtain ⟨me, hme⟩ : ∃ me : Nat → Nat, me = fun st => bWo A ch (bBe A ch (n - 1)) w st h d := ⟨_, rfl⟩
  rw [← hok, ← hme]
  have hmb : ∀ st, me st < 10000000 := fun st => by
    rw [hme]
    exact bWo_lt b hch hn hw
  have key : ∀ m i fu : Nat, ∀ τ : Mem, i + m = 8 → m < fu → mI0 k A J ch τ → ∃ μ', fx9 f_X12_bestSetting_9 fu (nI n) (nI w) (nI h) (nI d) (eN sel) (eN (gF ok me i)) (lN (eZ me (gF ok me i))) (nI i) τ = some (nI (oD (gF ok me 8)), μ') ∧ mFr J τ μ' ∧ mI0 k A J ch μ' := by
    intro m
    induction m with
    | zero =>
      intro i fu τ hi hf ht
      obtain ⟨fu, rfl⟩ : ∃ z, fu = z + 1 := ⟨fu - 1, by omega⟩
      have hi : i = 8 := by omega
      subst hi
      refine ⟨τ, ?_, mFr_refl _ _, ht⟩
      show f_X12_bestSetting_9 _ _ _ _ _ _ _ _ _ _ = _
      unfold f_X12_bestSetting_9
      rw [if_pos (by decide)]
      simp only [eN_1 (x := gF ok me 8) (fun b hb => by have := gF_lt _ _ _ _ hb; omega)]
      cases gF ok me 8 with
      | none => rfl
      | some x => rfl
    | succ m ih =>
      intro i fu τ hi hf ht
      obtain ⟨fu, rfl⟩ : ∃ z, fu = z + 1 := ⟨fu - 1, by omega⟩
      have hbi := hmb i
      -- a setting that may be
      have take : ∀ υ : Mem, mI0 k A J ch υ → ok i = true → ∃ μ', f_X12_bestSetting_36 (fx9 f_X12_bestSetting_9 fu) (nI n) (nI w) (nI h) (nI d) (eN sel) (eN (gF ok me i)) (lN (eZ me (gF ok me i))) (nI i) υ = some (nI (oD (gF ok me 8)), μ') ∧ mFr J υ μ' ∧ mI0 k A J ch μ' := by
        intro υ hυ q
        obtain ⟨υ', r1, r2, r3⟩ := m_withx hυ hn1 hn hw (show i < 8 by omega) hh hd
        have r1 : f_X12_withx (nI n) (nI w) (nI i) (nI h) (nI d) υ = some (lN (me i), υ') := by rw [r1, hme]
        obtain ⟨μ', u1, u2, u3⟩ := ih (i + 1) fu υ' (by omega) (by omega) r3
        refine ⟨μ', ?_, mFr_trans r2 u2, u3⟩
        rw [← u1]
        generalize fx9 f_X12_bestSetting_9 fu = kk
        unfold f_X12_bestSetting_36
        rw [r1, bd_some]
        simp only [eN_1 (x := gF ok me i) (fun b hb => by have := gF_lt _ _ _ _ hb; omega)]
        cases e : gF ok me i with
        | none =>
          rw [if_pos rfl, gF_ns e q]
          unfold f_X12_bestSetting_63 f_X12_bestSetting_68 f_X12_bestSetting_82 f_X12_bestSetting_96 f_X12_bestSetting_98
          rw [if_neg (by decide), if_neg (by decide), lt_eq, nI_1]
          rfl
        | some x =>
          have hx := hmb x
          rw [if_neg (by simp)]
          simp only [lg_le (show me i < 2 ^ 31 by omega) (show eZ me (some x) < 2 ^ 31 from (show me x < 2 ^ 31 by omega))]
          by_cases qq : me i ≤ me x
          · rw [if_pos (show me i ≤ eZ me (some x) from qq), gF_so e (by omega)]
            unfold f_X12_bestSetting_68 f_X12_bestSetting_82 f_X12_bestSetting_96 f_X12_bestSetting_98
            rw [if_pos (by rfl), if_pos (by rfl), lt_eq, nI_1]
          · rw [if_neg (show ¬ me i ≤ eZ me (some x) from qq), gF_sn e q (by omega)]
            unfold f_X12_bestSetting_63 f_X12_bestSetting_68 f_X12_bestSetting_82 f_X12_bestSetting_96 f_X12_bestSetting_98
            rw [if_neg (by decide), if_neg (by decide), lt_eq, nI_1]
            rfl
      show ∃ μ', f_X12_bestSetting_9 (fx9 f_X12_bestSetting_9 fu) _ _ _ _ _ _ _ _ _ = _ ∧ _
      unfold f_X12_bestSetting_9
      rw [if_neg (show ¬ (8 : Int32) ≤ nI i from nI_ge (a := i) (b := 8) (by omega) (by omega))]
      cases hsl : sel with
      | none =>
        rw [if_pos (show eN none = -1 from rfl)]
        have t := take τ ht (by rw [hok, hsl]; rfl)
        rw [hsl] at t
        exact t
      | some v =>
        have hv := hsel v hsl
        rw [if_neg (show ¬ eN (some v) = -1 from nI_m1 (by omega))]
        obtain ⟨τ', r1, r2, r3⟩ := m_isSafe ht (show i < 8 by omega) hv hh hd
        have r1 : f_X12_isSafe (nI i) (eN (some v)) (nI h) (nI d) τ = some (bI (ok i), τ') := by
          rw [hok, hsl]
          exact r1
        rw [r1, bd_some]
        by_cases q : ok i = true
        · rw [q, if_neg (by decide)]
          obtain ⟨μ', u1, u2, u3⟩ := take τ' r3 q
          rw [hsl] at u1
          exact ⟨μ', u1, mFr_trans r2 u2, u3⟩
        · have q := Bool.eq_false_iff.mpr q
          rw [q, if_pos (by rfl)]
          obtain ⟨μ', u1, u2, u3⟩ := ih (i + 1) fu τ' (by omega) (by omega) r3
          refine ⟨μ', ?_, mFr_trans r2 u2, u3⟩
          rw [← u1, gF_skip q, hsl]
          unfold f_X12_bestSetting_98
          rw [lt_eq, nI_1]
          rfl
  have hF : 8 < FU := by decide
  exact key 8 0 FU μ (by omega) hF hQ
def selW (sel : Option Nat) (st : Nat) : Bool := match sel with
  | none => true
  | some p => decide (st % 2 = p)
theorem m_watched {μ : Mem} (hQ : mI0 k A J ch μ) {w h d : Nat} {sel : Option Nat} (hw : w < 6) (hh : h < 10) (hd : d < 10) (hsel : ∀ p, sel = some p → p < 2) : ∃ μ', f_X12_watched (nI w) (eN sel) (nI h) (nI d) μ = some (nI (wSt A (selW sel) w h d), μ') ∧ mFr J μ μ' ∧ mI0 k A J ch μ' := by
  have b := hQ.2.1.1
  obtain ⟨ok, hok⟩ : ∃ ok, ok = okW A (selW sel) w h d := ⟨_, rfl⟩
  obtain ⟨me, hme⟩ : ∃ me : Nat → Nat, me = fun st => hMe A w st h d := ⟨_, rfl⟩
  have hmb : ∀ st, me st ≤ 990 := fun st => by
    rw [hme]
    exact hMe_le b w st h d
  have eW : wSt A (selW sel) w h d = oD (gF ok me 8) := by rw [hok, hme]; rfl
  rw [eW]
  have key : ∀ m i fu : Nat, ∀ τ : Mem, i + m = 8 → m < fu → mI0 k A J ch τ → ∃ μ', fx8 f_X12_watched_9 fu (nI w) (eN sel) (nI h) (nI d) (eN (gF ok me i)) (nI (eZ me (gF ok me i))) (nI i) τ = some (nI (oD (gF ok me 8)), μ') ∧ mFr J τ μ' ∧ mI0 k A J ch μ' := by
    intro m
    induction m with
    | zero =>
      intro i fu τ hi hf ht
      obtain ⟨fu, rfl⟩ : ∃ z, fu = z + 1 := ⟨fu - 1, by omega⟩
      have hi : i = 8 := by omega
      subst hi
      refine ⟨τ, ?_, mFr_refl _ _, ht⟩
      show f_X12_watched_9 _ _ _ _ _ _ _ _ _ = _
      unfold f_X12_watched_9
      rw [if_pos (by decide)]
      simp only [eN_1 (x := gF ok me 8) (fun b hb => by have := gF_lt _ _ _ _ hb; omega)]
      cases gF ok me 8 with
      | none => rfl
      | some x => rfl
    | succ m ih =>
      intro i fu τ hi hf ht
      obtain ⟨fu, rfl⟩ : ∃ z, fu = z + 1 := ⟨fu - 1, by omega⟩
      obtain ⟨τ', r1, r2, r3, r4⟩ := m_hourPlace ht hw (show i < 8 by omega) hh hd
      obtain ⟨v6, -, -, v9⟩ := m_at r3 hw (show i < 8 by omega) hh hd r4
      obtain ⟨μ', u1, u2, u3⟩ := ih (i + 1) fu τ' (by omega) (by omega) r3
      refine ⟨μ', ?_, mFr_trans r2 u2, u3⟩
      rw [← u1]
      have hx := hP_lt hw (show i < 8 by omega) hh hd
      generalize hP w i h d = x at *
      have ibx : ib (nI x) 4800 = true := ib_nI hx (by omega)
      have tnx : (nI x).toNatClampNeg = x := nI_tn (by omega)
      have e5 : ok i = (selW sel i && (!hBu A w i h d && !hAw A w i h d)) := by rw [hok]; rfl
      have em : hMe A w i h d = me i := by rw [hme]
      have hbi := hmb i
      show f_X12_watched_9 (fx8 f_X12_watched_9 fu) _ _ _ _ _ _ _ _ = _
      generalize fx8 f_X12_watched_9 fu = kk
      have no : ok i = false → f_X12_watched_65 kk (nI w) (eN sel) (nI h) (nI d) (eN (gF ok me i)) (nI (eZ me (gF ok me i))) (nI i) (nI x) τ' = kk (nI w) (eN sel) (nI h) (nI d) (eN (gF ok me (i + 1))) (nI (eZ me (gF ok me (i + 1)))) (nI (i + 1)) τ' := by
        intro q
        rw [gF_skip q]
        unfold f_X12_watched_65 f_X12_watched_66 f_X12_watched_95 f_X12_watched_96 f_X12_watched_110 f_X12_watched_129
        rw [if_pos rfl, if_pos rfl, if_pos rfl, lt_eq, nI_1]
      have yes : selW sel i = true → f_X12_watched_41 kk (nI w) (eN sel) (nI h) (nI d) (eN (gF ok me i)) (nI (eZ me (gF ok me i))) (nI i) (nI x) τ' = kk (nI w) (eN sel) (nI h) (nI d) (eN (gF ok me (i + 1))) (nI (eZ me (gF ok me (i + 1)))) (nI (i + 1)) τ' := by
        intro qs
        unfold f_X12_watched_41
        simp only [ibx, tnx, gd_true, v6, v9, gN_neg b, bI_0]
        by_cases qa : hAw A w i h d = true
        · rw [if_pos qa]
          exact no (by rw [e5, qs, qa]; simp)
        · have eg : gN A w i h d = nI (me i) := by rw [← em]; exact if_neg qa
          rw [if_neg qa]
          by_cases qb : hBu A w i h d = true
          · rw [if_neg (by rw [qb]; decide)]
            exact no (by rw [e5, qs, qb]; rfl)
          · have qb := Bool.eq_false_iff.mpr qb
            have q : ok i = true := by rw [e5, qs, qb, Bool.eq_false_iff.mpr qa]; rfl
            rw [if_pos qb]
            unfold f_X12_watched_66
            rw [if_neg (by decide)]
            simp only [eN_1 (x := gF ok me i) (fun b hb => by have := gF_lt _ _ _ _ hb; omega), ibx, tnx, gd_true, v6, eg]
            have upd : f_X12_watched_91 kk (nI w) (eN sel) (nI h) (nI d) (eN (gF ok me i)) (nI (eZ me (gF ok me i))) (nI i) (nI x) τ' = kk (nI w) (eN sel) (nI h) (nI d) (nI i) (nI (me i)) (nI (i + 1)) τ' := by
              unfold f_X12_watched_91 f_X12_watched_96 f_X12_watched_110 f_X12_watched_129
              rw [if_neg (by decide), if_neg (by decide), ibx, gd_true, tnx, v6, eg, lt_eq, nI_1]
            cases e : gF ok me i with
            | none =>
              rw [e] at upd
              rw [if_pos rfl, gF_ns e q]
              exact upd
            | some y =>
              rw [e] at upd
              have hy := hmb y
              rw [if_neg (by simp)]
              by_cases qq : me i ≤ me y
              · rw [if_pos (show nI (me i) ≤ nI (eZ me (some y)) from nI_le qq (show me y < 2 ^ 31 by omega)), gF_so e (by omega)]
                unfold f_X12_watched_95 f_X12_watched_96 f_X12_watched_110 f_X12_watched_129
                rw [if_pos rfl, if_pos rfl, lt_eq, nI_1]
              · rw [if_neg (show ¬ nI (me i) ≤ nI (eZ me (some y)) from nI_ge (show me y < me i by omega) (by omega)), gF_sn e q (by omega)]
                exact upd
      unfold f_X12_watched_9
      rw [if_neg (show ¬ (8 : Int32) ≤ nI i from nI_ge (a := i) (b := 8) (by omega) (by omega)), r1, bd_some]
      cases hsl : sel with
      | none =>
        rw [if_pos (show eN none = -1 from rfl)]
        rw [hsl] at yes
        exact yes rfl
      | some p =>
        have hp := hsel p hsl
        rw [if_neg (show ¬ eN (some p) = -1 from nI_m1 (by omega)), show (2 : Int32) = nI 2 from rfl, nIrem (by omega) (by omega) (by omega)]
        rw [hsl] at yes no e5
        by_cases q : i % 2 = p
        · rw [if_pos (show nI (i % 2) = eN (some p) from by rw [q]; rfl)]
          exact yes (decide_eq_true q)
        · rw [if_neg (show ¬ nI (i % 2) = eN (some p) from fun z => q (nI_inj (by omega) (by omega) z))]
          exact no (by rw [e5, show selW (some p) i = false from decide_eq_false q, Bool.false_and])
  have hF : 8 < FU := by decide
  exact key 8 0 FU μ (by omega) hF hQ
/-- the rule as the model has it -/
def mSt (kd v : Nat) (row : Nat → Nat) (ru : Int32) (s : Nat → Int32) : Prop := kd < 7 ∧ v < 8 ∧ (∀ t, row t < 8) ∧ (kd = 6 → ∃ r z, ru = nI r ∧ r < 10 ∧ z ≤ 10 ∧ s (907 + r) = nI z ∧ (z = 0 → ∀ t, row t = v) ∧ (0 < z → ∀ t, s (917 + 10 * r + t % z) = nI (row t)))
theorem m_settingOf {μ : Mem} (hQ : mI0 k A J ch μ) {kd v : Nat} {row : Nat → Nat} {ru : Int32} (hS : mSt kd v row ru (gI μ 1)) {t l w bf h d : Nat} (ht : t < 100) (hl0 : 1 ≤ l) (hl : l < 1000) (hw : w < 6) (hb : bf < 6) (hh : h < 10) (hd : d < 10) : ∃ μ', f_X12_settingOf (nI kd) (nI v) ru (nI t) (nI l) (nI w) (nI bf) (nI h) (nI d) μ = some (nI (stK A ch kd v row t l w bf h d), μ') ∧ mFr J μ μ' ∧ mI0 k A J ch μ' := by
  obtain ⟨h1, h2, h3, h6⟩ := hS
  have e3 : f_X12_settingOf (nI kd) (nI v) ru (nI t) (nI l) (nI w) (nI bf) (nI h) (nI d) μ = f_X12_settingOf_12 (nI kd) (nI v) ru (nI t) (nI w) (nI bf) (nI h) (nI d) (nI (min l 3)) μ := by
    unfold f_X12_settingOf
    by_cases q : l ≤ 3
    · rw [if_pos (show nI l ≤ (3 : Int32) from nI_le (b := 3) q (by omega)), Nat.min_eq_left q]
    · rw [if_neg (show ¬ nI l ≤ (3 : Int32) from nI_ge (a := 3) (by omega) (by omega)), Nat.min_eq_right (by omega)]
      rfl
  rw [e3]
  unfold f_X12_settingOf_12
  rcases (show kd = 0 ∨ kd = 1 ∨ kd = 2 ∨ kd = 3 ∨ kd = 4 ∨ kd = 5 ∨ kd = 6 by omega) with rfl | rfl | rfl | rfl | rfl | rfl | rfl
  · exact ⟨μ, rfl, mFr_refl _ _, hQ⟩
  · exact ⟨μ, rfl, mFr_refl _ _, hQ⟩
  · rw [if_neg (by decide), if_pos (by rfl), show (2 : Int32) = nI 2 from rfl, nIrem (by omega) (by omega) (by omega)]
    obtain ⟨μ', s1, s2⟩ := m_watched hQ (sel := some (v % 2)) hb hh hd (fun p hp => by have := Option.some.inj hp; omega)
    refine ⟨μ', ?_, s2⟩
    have s1 : f_X12_watched (nI bf) (nI (v % 2)) (nI h) (nI d) μ = _ := s1
    rw [s1, bd_some]
    rfl
  · rw [if_neg (by decide), if_neg (by decide), if_pos (by rfl)]
    obtain ⟨μ', s1, s2⟩ := m_watched hQ (sel := none) hw hh hd (fun p hp => by cases hp)
    refine ⟨μ', ?_, s2⟩
    have s1 : f_X12_watched (nI w) (-1 : Int32) (nI h) (nI d) μ = _ := s1
    rw [s1, bd_some]
    rfl
  · rw [if_neg (by decide), if_neg (by decide), if_neg (by decide), if_pos (by rfl)]
    obtain ⟨μ', s1, s2⟩ := m_bestSetting hQ (n := min l 3) (sel := none) (by omega) (by omega) hw hh hd (fun p hp => by cases hp)
    refine ⟨μ', ?_, s2⟩
    have s1 : f_X12_bestSetting (nI (min l 3)) (nI w) (nI h) (nI d) (-1 : Int32) μ = _ := s1
    rw [s1, bd_some]
    have es : stK A ch 4 v row t l w bf h d = am8 (fun st => bWo A ch (bBe A ch (min l 3 - 1)) w st h d) 8 := rfl
    have e : gF (okS A h d none) (fun st => bWo A ch (bBe A ch (min l 3 - 1)) w st h d) 8 = some (am8 (fun st => bWo A ch (bBe A ch (min l 3 - 1)) w st h d) 8) := (gF_all (fun st => bWo A ch (bBe A ch (min l 3 - 1)) w st h d) 7).1
    rw [es, e]
    rfl
  · rw [if_neg (by decide), if_neg (by decide), if_neg (by decide), if_neg (by decide), if_pos (by rfl)]
    obtain ⟨μ', s1, s2⟩ := m_bestSetting hQ (n := min l 3) (sel := some v) (by omega) (by omega) hw hh hd (fun p hp => by have := Option.some.inj hp; omega)
    refine ⟨μ', ?_, s2⟩
    have s1 : f_X12_bestSetting (nI (min l 3)) (nI w) (nI h) (nI d) (nI v) μ = _ := s1
    rw [s1, bd_some]
    rfl
  · rw [if_neg (by decide), if_neg (by decide), if_neg (by decide), if_neg (by decide), if_neg (by decide), if_pos (by rfl)]
    obtain ⟨r, z, rfl, hr, hz, e1, e2, e4⟩ := h6 rfl
    refine ⟨μ, ?_, mFr_refl _ _, hQ⟩
    have ex : (907 : Int32) + nI r = nI (907 + r) := nI_add 907 r
    have ibx : ib (nI (907 + r)) 1055 = true := ib_nI (by omega) (by omega)
    have tnx : (nI (907 + r)).toNatClampNeg = 907 + r := nI_tn (by omega)
    rw [ex, ibx, gd_true, tnx, e1]
    by_cases q : z = 0
    · rw [if_pos (by rw [q]; rfl)]
      have es : stK A ch 6 v row t l w bf h d = row t := rfl
      rw [es, e2 q t]
    · have hm : t % z < z := Nat.mod_lt _ (by omega)
      have en : ¬ nI z = 0 := nI_ne0 (by omega) (by omega)
      have ey : ((917 : Int32) + ((10 : Int32) * nI r)) + irm (nI t) (nI z) = nI (917 + 10 * r + t % z) := by
        rw [nIrem (by omega) (by omega) (by omega)]
        simp only [li, pk_mul, nI_add]
      have iby : ib (nI (917 + 10 * r + t % z)) 1055 = true := ib_nI (by omega) (by omega)
      have tny : (nI (917 + 10 * r + t % z)).toNatClampNeg = 917 + 10 * r + t % z := nI_tn (by omega)
      rw [if_neg en, gd_true, decide_eq_true en, gd_true, ey, iby, gd_true, tny, e4 (by omega) t]
      rfl
end MSET
