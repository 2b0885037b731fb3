/-! THE PLANNER of the class: what is known of best; safe ones; the setting -/
section PLAN2
variable {M : Nat} {Am : Nat → Mil} {k J : Nat} {ch : Nat → Nat → Nat}
theorem tb255 : ∀ i, i < 8 → (255 : Nat).testBit i = true := by
  have : ∀ q : Fin 8, (255 : Nat).testBit q.val = true := by decide
  exact fun i hi => this ⟨i, hi⟩
theorem gR_all (me : Nat → Nat) : gR me (gF (fun st => (255 : Nat).testBit st) me 8) = 8 * mx8 me 8 + am8 me 8 := by
  rw [gF_congr (ok' := fun _ => true) (m' := me) (fun i hi => tb255 i hi) (fun _ _ => rfl), (gF_all me 7).1]
  show 8 * me (am8 me 8) + am8 me 8 = _
  rw [(gF_all me 7).2]
theorem c_bestFromN : ∀ (n : Nat) (fu : Nat), n < fu → n ≤ 6 → rcB M Am k J ch n (fx5 f_X5_bestFrom_F fu) := by
  intro n
  induction n with
  | zero =>
    intro fu hf _ τ w h d hτ hw hh hd
    obtain ⟨fu, rfl⟩ : ∃ z, fu = z + 1 := ⟨fu - 1, by omega⟩
    refine ⟨τ, ?_, cFr_refl _ _, hτ⟩
    show f_X5_bestFrom_F (fx5 f_X5_bestFrom_F fu) _ _ _ _ _ = _
    generalize fx5 f_X5_bestFrom_F fu = kk
    unfold f_X5_bestFrom_F
    rw [lt_eq, if_pos (by decide)]
    rfl
  | succ n ih =>
    intro fu hf hn τ w h d hτ hw hh hd
    obtain ⟨fu, rfl⟩ : ∃ z, fu = z + 1 := ⟨fu - 1, by omega⟩
    have hrc := ih fu (by omega) (by omega)
    have ei : ((n + 1) * 6 + w) * 100 + h * 10 + d = (((n + 1) * 6 + w) * 10 + h) * 10 + d := by omega
    have hx : (((n + 1) * 6 + w) * 10 + h) * 10 + d < 4200 := by omega
    have ex : (((nI (n + 1) * (6 : Int32) + nI w) * (100 : Int32)) + (nI h * (10 : Int32))) + nI d = nI ((((n + 1) * 6 + w) * 10 + h) * 10 + d) := by
      rw [← ei]
      simp only [li, pk_mul, nI_add]
    have ibx : ib (nI ((((n + 1) * 6 + w) * 10 + h) * 10 + d)) 4200 = true := ib_nI hx (by omega)
    have tnx : (nI ((((n + 1) * 6 + w) * 10 + h) * 10 + d)).toNatClampNeg = (((n + 1) * 6 + w) * 10 + h) * 10 + d := nI_tn (by omega)
    have h414 : gI τ 41 4 = nI J := hτ.2.2.2.2.2.1
    have hJ := hτ.1.2.2.1
    have eC : bC (Am k) ch (n + 1) w h d = 8 * bBe (Am k) ch (n + 1) w h d + bSt (Am k) ch n w h d := if_neg (by omega)
    show ∃ τ', f_X5_bestFrom_F (fx5 f_X5_bestFrom_F fu) _ _ _ _ _ = _ ∧ _
    have start : f_X5_bestFrom_F (fx5 f_X5_bestFrom_F fu) (nI (n + 1)) (nI w) (nI h) (nI d) τ = if gI τ 43 ((((n + 1) * 6 + w) * 10 + h) * 10 + d) = nI J then some (gI τ 42 ((((n + 1) * 6 + w) * 10 + h) * 10 + d), τ) else
        bd (f_X5_greatest (fx5 f_X5_bestFrom_F fu) (nI (n + 1)) (nI w) (nI h) (nI d) (255 : Int32) τ) fun r_8 σ_9 => gd true <| lt (sI σ_9 42 ((((n + 1) * 6 + w) * 10 + h) * 10 + d) r_8) fun σ_11 => gd true <| lt (sI σ_11 43 ((((n + 1) * 6 + w) * 10 + h) * 10 + d) (gI σ_11 41 4)) fun σ_13 => gd true <| some (gI σ_13 42 ((((n + 1) * 6 + w) * 10 + h) * 10 + d), σ_13) := by
      generalize fx5 f_X5_bestFrom_F fu = kk
      unfold f_X5_bestFrom_F
      rw [ex, lt_eq, if_neg (show ¬ nI (n + 1) < (1 : Int32) from nI_nlt (a := n + 1) (b := 1) (by omega) (by omega)), if_neg (nI_pos (by omega)), if_pos (show nI ((((n + 1) * 6 + w) * 10 + h) * 10 + d) < (4200 : Int32) from nI_lt (b := 4200) hx (by omega)), ibx, tnx, h414, gd_true, gd_true]
    rw [start]
    by_cases q : gI τ 43 ((((n + 1) * 6 + w) * 10 + h) * 10 + d) = nI J
    · rw [if_pos q]
      have e := hτ.2.2.2.2.2.2.1 (n + 1) w h d (by omega) (by omega) hw hh hd q
      rw [e, eC]
      exact ⟨τ, rfl, cFr_refl _ _, hτ⟩
    · rw [if_neg q]
      obtain ⟨σ9, g1, g2, g3⟩ := c_greatest (n := n + 1) (am := 255) (by omega) hn (fun _ => hrc) hτ hw hh hd (by omega)
      have g1 : f_X5_greatest (fx5 f_X5_bestFrom_F fu) (nI (n + 1)) (nI w) (nI h) (nI d) (255 : Int32) τ = some (nI (bC (Am k) ch (n + 1) w h d), σ9) := by
        rw [eC]
        refine Eq.trans g1 ?_
        rw [gR_all]
        rfl
      rw [g1, bd_some]
      have h9 : gI σ9 41 4 = nI J := g3.2.2.2.2.2.1
      have l9 : gI (sI σ9 42 ((((n + 1) * 6 + w) * 10 + h) * 10 + d) (nI (bC (Am k) ch (n + 1) w h d))) 41 4 = nI J := by simp (disch := omega) only [gI_ss, gI_sk, gI_sc]; exact h9
      refine ⟨sI (sI σ9 42 ((((n + 1) * 6 + w) * 10 + h) * 10 + d) (nI (bC (Am k) ch (n + 1) w h d))) 43 ((((n + 1) * 6 + w) * 10 + h) * 10 + d) (nI J), ?_, ?_, ?_⟩
      · rw [gd_true, lt_eq, gd_true, lt_eq, gd_true, l9, gI_sc _ _ _ _ (by omega), gI_ss]
      · refine cFr_trans g2 ⟨fun c _ h42 h43 => by rw [gIr _ _ _ h43, gIr _ _ _ h42], fun j hj => ⟨?_, fun i _ _ => ?_⟩⟩
        · rw [gIr _ _ _ (by unfold mo; omega), gIr _ _ _ (by unfold mo; omega)]
        · rw [gIr _ _ _ (by unfold mo; omega), gIr _ _ _ (by unfold mo; omega)]
      · obtain ⟨i1, i5, i6, i7, i8, i9, i10, i11, i12⟩ := g3
        refine ⟨i1, fun j hj => cM_c (i5 j hj) (fun x _ _ => ?_) (fun i _ _ => ?_), fun j hj => ?_, by simp (disch := omega) only [gI_ss, gI_sk, gI_sc]; exact i7, by simp (disch := omega) only [gI_ss, gI_sk, gI_sc]; exact i8, by simp (disch := omega) only [gI_ss, gI_sk, gI_sc]; exact i9, ?_, fun w i a b => by simp (disch := omega) only [gI_ss, gI_sk, gI_sc]; exact i11 w i a b, fun i hi => ?_⟩
        · rw [gI_sc _ _ _ _ (by unfold mo; omega), gI_sc _ _ _ _ (by unfold mo; omega)]
        · rw [gIr _ _ _ (by unfold mo; omega), gIr _ _ _ (by unfold mo; omega)]
        · intro w st h d a b c e
          rw [gI_sc _ _ _ _ (by unfold mo; omega), gI_sc _ _ _ _ (by unfold mo; omega)]
          exact i6 j hj w st h d a b c e
        · intro n' w' h' d' a1 a2 a3 a4 a5 a6
          by_cases e : ((n' * 6 + w') * 10 + h') * 10 + d' = (((n + 1) * 6 + w) * 10 + h) * 10 + d
          · have : n' = n + 1 ∧ w' = w ∧ h' = h ∧ d' = d := by omega
            obtain ⟨rfl, rfl, rfl, rfl⟩ := this
            rw [gI_sc _ _ _ _ (by omega), gI_ss, eC]
            rfl
          · rw [gI_sk _ _ _ e, gI_sc _ _ _ _ (by omega)] at a6
            rw [gI_sc _ _ _ _ (by omega), gI_sk _ _ _ e]
            exact i10 n' w' h' d' a1 a2 a3 a4 a5 a6
        · by_cases e : i = (((n + 1) * 6 + w) * 10 + h) * 10 + d
          · subst e
            rw [gI_ss]
            exact ⟨J, Nat.le_refl _, rfl⟩
          · rw [gI_sk _ _ _ e, gI_sc _ _ _ _ (by omega)]
            exact i12 i hi
theorem c_bestFrom {σ : Mem} (hQ : cI0 M Am k J ch σ) {n w h d : Nat} (hn : n ≤ 6) (hw : w < 6) (hh : h < 10) (hd : d < 10) : ∃ σ', f_X5_bestFrom (nI n) (nI w) (nI h) (nI d) σ = some (nI (bC (Am k) ch n w h d), σ') ∧ cFr M σ σ' ∧ cI0 M Am k J ch σ' := c_bestFromN n 16 (by omega) hn σ w h d hQ hw hh hd
theorem c_bestSetting {σ : Mem} (hQ : cI0 M Am k J ch σ) {n w h d : Nat} (h0 : 0 < n) (hn : n ≤ 6) (hw : w < 6) (hh : h < 10) (hd : d < 10) : ∃ σ', f_X5_bestSetting (nI n) (nI w) (nI h) (nI d) σ = some (nI (bSt (Am k) ch (n - 1) w h d), σ') ∧ cFr M σ σ' ∧ cI0 M Am k J ch σ' := by
  obtain ⟨σ', s1, s2, s3⟩ := c_bestFrom hQ hn hw hh hd
  have hb := bC_le (hQ.2.1 k hQ.1.2.1).1 hQ.1.2.2.2 hn hw h d
  refine ⟨σ', ?_, s2, s3⟩
  unfold f_X5_bestSetting
  rw [s1, bd_some, show (8 : Int32) = nI 8 from rfl, nIrem (by omega) (by omega) (by omega), bC_mod h0]
theorem c_bestWorth {σ : Mem} (hQ : cI0 M Am k J ch σ) {n w h d : Nat} (hn : n ≤ 6) (hw : w < 6) (hh : h < 10) (hd : d < 10) : ∃ σ', f_X5_bestWorth (nI n) (nI w) (nI h) (nI d) σ = some (nI (bBe (Am k) ch n w h d), σ') ∧ cFr M σ σ' ∧ cI0 M Am k J ch σ' := by
  obtain ⟨σ', s1, s2, s3⟩ := c_bestFrom hQ hn hw hh hd
  have hb := bC_le (hQ.2.1 k hQ.1.2.1).1 hQ.1.2.2.2 hn hw h d
  refine ⟨σ', ?_, s2, s3⟩
  unfold f_X5_bestWorth
  rw [s1, bd_some, show (8 : Int32) = nI 8 from rfl, nIdiv (by omega) (by omega) (by omega), bC_div]
/-! safe ones -/
def clr (m s : Nat) : Nat := m &&& (255 - 2 ^ s)
theorem clr_I {m s : Nat} (hm : m < 256) (hs : s < 8) : nI m &&& (((1 : Int32) <<< (nI s &&& 31)) ^^^ (-1 : Int32)) = nI (clr m s) := by
  have : ∀ a : Fin 256, ∀ b : Fin 8, nI a.val &&& (((1 : Int32) <<< (nI b.val &&& 31)) ^^^ (-1 : Int32)) = nI (clr a.val b.val) := by decide +kernel
  exact this ⟨m, hm⟩ ⟨s, hs⟩
theorem clr_lt {m s : Nat} (hm : m < 256) (hs : s < 8) : clr m s < 256 := by
  have : ∀ a : Fin 256, ∀ b : Fin 8, clr a.val b.val < 256 := by decide +kernel
  exact this ⟨m, hm⟩ ⟨s, hs⟩
theorem clr_tb {m s j : Nat} (hm : m < 256) (hs : s < 8) (hj : j < 8) : (clr m s).testBit j = (m.testBit j && !decide (j = s)) := by
  have : ∀ a : Fin 256, ∀ b : Fin 8, ∀ c : Fin 8, (clr a.val b.val).testBit c.val = (a.val.testBit c.val && !decide (c.val = b.val)) := by decide +kernel
  exact this ⟨m, hm⟩ ⟨s, hs⟩ ⟨j, hj⟩
theorem c_safeOnes {σ : Mem} (hQ : cI0 M Am k J ch σ) {h d v : Nat} (hh : h < 10) (hd : d < 10) (hv : v < 8) (h11 : gI σ 41 11 = nI v) : ∃ m σ', f_X5_safeOnes (nI h) (nI d) σ = some (nI m, σ') ∧ m < 256 ∧ (∀ st, st < 8 → m.testBit st = sfB (Am k) h d st (min (v + 1) 6)) ∧ cFr M σ σ' ∧ cI0 M Am k J ch σ' := by
  have hk5 : k < 5 := by have := hQ.1; omega
  have b := (hQ.2.1 k hQ.1.2.1).1
  have inner : ∀ (k7 : Int32 → Int32 → Int32 → Int32 → Mem → Option (Int32 × Mem)) (w : Nat), w < 6 → ∀ m i fu a : Nat, ∀ τ : Mem, i + m = 8 → m < fu → a < 256 → (∀ st, st < 8 → a.testBit st = sfB (Am k) h d st (if st < i then w + 1 else w)) → cI0 M Am k J ch τ →
      ∃ a' τ', fx6 (f_X5_safeOnes_26 k7) fu (nI h) (nI d) (nI a) (nI w) (nI i) τ = k7 (nI h) (nI d) (nI a') (nI (w + 1)) τ' ∧ a' < 256 ∧ (∀ st, st < 8 → a'.testBit st = sfB (Am k) h d st (w + 1)) ∧ cFr M τ τ' ∧ cI0 M Am k J ch τ' := by
    intro k7 w hw m
    induction m with
    | zero =>
      intro i fu a τ hi hf ha hb ht
      obtain ⟨fu, rfl⟩ : ∃ z, fu = z + 1 := ⟨fu - 1, by omega⟩
      have hi : i = 8 := by omega
      subst hi
      refine ⟨a, τ, ?_, ha, fun st hst => by have := hb st hst; rw [if_pos hst] at this; exact this, cFr_refl _ _, ht⟩
      show f_X5_safeOnes_26 k7 _ _ _ _ _ _ _ = _
      unfold f_X5_safeOnes_26
      rw [if_pos (by decide), lt_eq, nI_1]
    | succ m ih =>
      intro i fu a τ hi hf ha hb ht
      obtain ⟨fu, rfl⟩ : ∃ z, fu = z + 1 := ⟨fu - 1, by omega⟩
      have l41 : gI τ 41 6 = nI (mo k) := ht.2.2.2.1
      obtain ⟨τ', t1, t2, t3⟩ := c_hb ht hw (show i < 8 by omega) hh hd
      have es : sfB (Am k) h d i (w + 1) = (sfB (Am k) h d i w && !hAw (Am k) w i h d) := rfl
      have e0 := hb i (by omega)
      rw [if_neg (by omega)] at e0
      show ∃ a' τ', f_X5_safeOnes_26 k7 (fx6 (f_X5_safeOnes_26 k7) fu) _ _ _ _ _ _ = _ ∧ _
      by_cases qa : hAw (Am k) w i h d = true
      · have hc : ∀ st, st < 8 → (clr a i).testBit st = sfB (Am k) h d st (if st < i + 1 then w + 1 else w) := fun st hst => by
          rw [clr_tb ha (by omega) hst]
          by_cases e : st = i
          · subst e
            rw [decide_eq_true rfl, if_pos (by omega), es, qa]
            simp
          · rw [decide_eq_false e, hb st hst]
            by_cases e2 : st < i
            · rw [if_pos e2, if_pos (by omega)]
              simp
            · rw [if_neg e2, if_neg (by omega)]
              simp
        obtain ⟨a', σ', u1, u2, u3, u4, u5⟩ := ih (i + 1) fu (clr a i) τ' (by omega) (by omega) (clr_lt ha (by omega)) hc t3
        refine ⟨a', σ', ?_, u2, u3, cFr_trans t2 u4, u5⟩
        rw [← u1]
        generalize fx6 (f_X5_safeOnes_26 k7) fu = kk
        unfold f_X5_safeOnes_26 f_X5_safeOnes_61
        rw [if_neg (show ¬ (8 : Int32) ≤ nI i from nI_ge (a := i) (b := 8) (by omega) (by omega)), l41, im_mo hk5, gd_true, tn_mo hk5, t1, bd_some, c_isAway b w i hh hd, bd_some, if_neg (by rw [qa]; decide), lt_eq, clr_I ha (by omega), lt_eq, nI_1]
      · have qa := Bool.eq_false_iff.mpr qa
        have hc : ∀ st, st < 8 → a.testBit st = sfB (Am k) h d st (if st < i + 1 then w + 1 else w) := fun st hst => by
          by_cases e : st = i
          · subst e
            rw [if_pos (by omega), es, qa, e0]
            simp
          · rw [hb st hst]
            by_cases e2 : st < i
            · rw [if_pos e2, if_pos (by omega)]
            · rw [if_neg e2, if_neg (by omega)]
        obtain ⟨a', σ', u1, u2, u3, u4, u5⟩ := ih (i + 1) fu a τ' (by omega) (by omega) ha hc t3
        refine ⟨a', σ', ?_, u2, u3, cFr_trans t2 u4, u5⟩
        rw [← u1]
        generalize fx6 (f_X5_safeOnes_26 k7) fu = kk
        unfold f_X5_safeOnes_26 f_X5_safeOnes_61
        rw [if_neg (show ¬ (8 : Int32) ≤ nI i from nI_ge (a := i) (b := 8) (by omega) (by omega)), l41, im_mo hk5, gd_true, tn_mo hk5, t1, bd_some, c_isAway b w i hh hd, bd_some, if_pos (by rw [qa]; rfl), lt_eq, nI_1]
  have outer : ∀ m w fu a : Nat, ∀ τ : Mem, w + m = min (v + 1) 6 → m < fu → a < 256 → (∀ st, st < 8 → a.testBit st = sfB (Am k) h d st w) → cFr M σ τ → cI0 M Am k J ch τ →
      ∃ a' σ', fx5 f_X5_safeOnes_7 fu (nI h) (nI d) (nI a) (nI w) τ = some (nI a', σ') ∧ a' < 256 ∧ (∀ st, st < 8 → a'.testBit st = sfB (Am k) h d st (min (v + 1) 6)) ∧ cFr M σ σ' ∧ cI0 M Am k J ch σ' := by
    intro m
    induction m with
    | zero =>
      intro w fu a τ hi hf ha hb hfr ht
      obtain ⟨fu, rfl⟩ : ∃ z, fu = z + 1 := ⟨fu - 1, by omega⟩
      have hi : w = min (v + 1) 6 := by omega
      have l11 : gI τ 41 11 = nI v := by rw [hfr.1 41 (by omega) (by omega) (by omega)]; exact h11
      refine ⟨a, τ, ?_, ha, by rw [← hi]; exact hb, hfr, ht⟩
      show f_X5_safeOnes_7 (fx5 f_X5_safeOnes_7 fu) _ _ _ _ _ = _
      generalize fx5 f_X5_safeOnes_7 fu = kk
      unfold f_X5_safeOnes_7
      by_cases q : w = 6
      · rw [if_pos (by rw [q]; decide)]
      · rw [if_neg (show ¬ (6 : Int32) ≤ nI w from nI_ge (a := w) (b := 6) (by omega) (by omega)), l11, if_pos (nI_lt (by omega) (by omega))]
    | succ m ih =>
      intro w fu a τ hi hf ha hb hfr ht
      obtain ⟨fu, rfl⟩ : ∃ z, fu = z + 1 := ⟨fu - 1, by omega⟩
      have l11 : gI τ 41 11 = nI v := by rw [hfr.1 41 (by omega) (by omega) (by omega)]; exact h11
      have hF : 8 < FU := by decide
      obtain ⟨a', τ', t1, t2, t3, t4, t5⟩ := inner (fx5 f_X5_safeOnes_7 fu) w (by omega) 8 0 FU a τ (by omega) hF ha (fun st hst => by rw [if_neg (by omega)]; exact hb st hst) ht
      obtain ⟨a2, σ', u1, u2⟩ := ih (w + 1) fu a' τ' (by omega) (by omega) t2 t3 (cFr_trans hfr t4) t5
      refine ⟨a2, σ', ?_, u2⟩
      rw [← u1, ← t1]
      show f_X5_safeOnes_7 (fx5 f_X5_safeOnes_7 fu) _ _ _ _ _ = _
      generalize fx5 f_X5_safeOnes_7 fu = kk
      unfold f_X5_safeOnes_7
      rw [if_neg (show ¬ (6 : Int32) ≤ nI w from nI_ge (a := w) (b := 6) (by omega) (by omega)), l11, if_neg (nI_nlt (by omega) (by omega))]
      rfl
  have hF : 6 < FU := by decide
  obtain ⟨a', σ', u1, u2⟩ := outer (min (v + 1) 6) 0 FU 255 σ (by omega) (by omega) (by omega) (fun st hst => tb255 st hst) (cFr_refl _ _) hQ
  exact ⟨a', σ', u1, u2⟩
/-- the rule that is followed: its kind, its v, its row -/
def cSt (kd v : Nat) (row : Nat → Nat) (σ : Mem) : Prop := kd < 7 ∧ v < 8 ∧ (∀ t, row t < 8) ∧ gI σ 41 10 = nI kd ∧ gI σ 41 11 = nI v ∧ (kd = 6 → gI σ 41 8 = nI 8 ∧ ∃ ru, gI σ 41 9 = nI ru ∧ ∀ τ, (∀ c, 8 ≤ c → c < 41 → gI τ c = gI σ c) → ∀ t, t < 100 → f_X7_told (nI ru) (nI t) τ = some (nI (row t), τ))
theorem cSt_fr {kd v : Nat} {row : Nat → Nat} {σ τ : Mem} (h : cSt kd v row σ) (hf : cFr M σ τ) : cSt kd v row τ := by
  obtain ⟨h1, h2, h3, h4, h5, h6⟩ := h
  have e := hf.1 41 (by omega) (by omega) (by omega)
  refine ⟨h1, h2, h3, by rw [e]; exact h4, by rw [e]; exact h5, fun q => ?_⟩
  obtain ⟨g1, ru, g2, g3⟩ := h6 q
  exact ⟨by rw [e]; exact g1, ru, by rw [e]; exact g2, fun υ hυ t ht => g3 υ (fun c h8 hc => (hυ c h8 hc).trans (hf.1 c (by omega) (by omega) (by omega))) t ht⟩
theorem c_settingAt {σ : Mem} (hQ : cI0 M Am k J ch σ) {kd v : Nat} {row : Nat → Nat} (hS : cSt kd v row σ) {t l w bf h d : Nat} (ht : t < 100) (hl0 : 1 ≤ l) (hl : l < 1000) (hw : w < 6) (hb : bf < 6) (hh : h < 10) (hd : d < 10) : ∃ σ', f_X5_settingAt (nI t) (nI l) (nI w) (nI bf) (nI h) (nI d) σ = some (nI (stK (Am k) ch kd v row t l w bf h d), σ') ∧ cFr M σ σ' ∧ cI0 M Am k J ch σ' := by
  obtain ⟨h1, h2, h3, h4, h5, h6⟩ := hS
  have e3 : imn (nI l) (3 : Int32) = nI (min l 3) := imn_nI (b := 3) (by omega) (by omega)
  unfold f_X5_settingAt
  rw [e3, lt_eq, h4, h5]
  rcases (show kd = 0 ∨ kd = 1 ∨ kd = 2 ∨ kd = 3 ∨ kd = 4 ∨ kd = 5 ∨ kd = 6 by omega) with rfl | rfl | rfl | rfl | rfl | rfl | rfl
  · exact ⟨σ, rfl, cFr_refl _ _, hQ⟩
  · exact ⟨σ, rfl, cFr_refl _ _, hQ⟩
  · rw [if_neg (by decide), if_pos (by rfl), show (2 : Int32) = nI 2 from rfl, nIrem (by omega) (by omega) (by omega)]
    have e85 : ∀ i, i < 8 → (85 : Nat).testBit i = decide (i % 2 = 0) := by
      have : ∀ q : Fin 8, (85 : Nat).testBit q.val = decide (q.val % 2 = 0) := by decide
      exact fun i hi => this ⟨i, hi⟩
    have e170 : ∀ i, i < 8 → (170 : Nat).testBit i = decide (i % 2 = 1) := by
      have : ∀ q : Fin 8, (170 : Nat).testBit q.val = decide (q.val % 2 = 1) := by decide
      exact fun i hi => this ⟨i, hi⟩
    have es : stK (Am k) ch 2 v row t l w bf h d = wSt (Am k) (fun st => decide (st % 2 = v % 2)) bf h d := rfl
    unfold f_X5_settingAt_77
    by_cases q : v % 2 = 0
    · rw [if_pos (by rw [q]; rfl)]
      obtain ⟨σ', s1, s2⟩ := c_mostMeal hQ (am := 85) hb hh hd (by omega)
      refine ⟨σ', ?_, s2⟩
      have s1 : f_X5_mostMeal (nI bf) (nI h) (nI d) (85 : Int32) σ = _ := s1
      rw [s1, bd_some, es]
      unfold wSt
      rw [gF_congr (ok' := okW (Am k) (fun st => decide (st % 2 = v % 2)) bf h d) (m' := fun st => hMe (Am k) bf st h d) (fun i hi => by show (Nat.testBit 85 i && _) = (decide (i % 2 = v % 2) && _); rw [e85 i hi, q]) (fun _ _ => rfl)]
    · have q : v % 2 = 1 := by omega
      rw [if_neg (by rw [q]; decide)]
      obtain ⟨σ', s1, s2⟩ := c_mostMeal hQ (am := 170) hb hh hd (by omega)
      refine ⟨σ', ?_, s2⟩
      have s1 : f_X5_mostMeal (nI bf) (nI h) (nI d) (170 : Int32) σ = _ := s1
      rw [s1, bd_some, es]
      unfold wSt
      rw [gF_congr (ok' := okW (Am k) (fun st => decide (st % 2 = v % 2)) bf h d) (m' := fun st => hMe (Am k) bf st h d) (fun i hi => by show (Nat.testBit 170 i && _) = (decide (i % 2 = v % 2) && _); rw [e170 i hi, q]) (fun _ _ => rfl)]
  · rw [if_neg (by decide), if_neg (by decide), if_pos (by rfl)]
    obtain ⟨σ', s1, s2⟩ := c_mostMeal hQ (am := 255) hw hh hd (by omega)
    refine ⟨σ', ?_, s2⟩
    have s1 : f_X5_mostMeal (nI w) (nI h) (nI d) (255 : Int32) σ = _ := s1
    rw [s1, bd_some]
    have es : stK (Am k) ch 3 v row t l w bf h d = wSt (Am k) (fun _ => true) w h d := rfl
    rw [es]
    unfold wSt
    rw [gF_congr (ok' := okW (Am k) (fun _ => true) w h d) (m' := fun st => hMe (Am k) w st h d) (fun i hi => by show (Nat.testBit 255 i && _) = (true && _); rw [tb255 i hi]) (fun _ _ => rfl)]
  · rw [if_neg (by decide), if_neg (by decide), if_neg (by decide), if_pos (by rfl)]
    obtain ⟨σ', s1, s2⟩ := c_bestFrom hQ (n := min l 3) (by omega) hw hh hd
    have hb := bC_le (hQ.2.1 k hQ.1.2.1).1 hQ.1.2.2.2 (n := min l 3) (by omega) hw h d
    refine ⟨σ', ?_, s2⟩
    have es : stK (Am k) ch 4 v row t l w bf h d = bSt (Am k) ch (min l 3 - 1) w h d := rfl
    rw [s1, bd_some, es, show (8 : Int32) = nI 8 from rfl, nIrem (by omega) (by omega) (by omega), bC_mod (by omega)]
  · rw [if_neg (by decide), if_neg (by decide), if_neg (by decide), if_neg (by decide), if_pos (by rfl)]
    obtain ⟨m, σ1, s1, s2, s3, s4, s5⟩ := c_safeOnes hQ hh hd h2 h5
    obtain ⟨σ2, g1, g2, g3⟩ := c_greatest (rc := f_X5_bestFrom) (n := min l 3) (am := m) (by omega) (by omega) (fun _ => c_bestFromN (min l 3 - 1) 16 (by omega) (by omega)) s5 hw hh hd s2
    refine ⟨σ2, ?_, cFr_trans s4 g2, g3⟩
    rw [s1, bd_some]
    unfold f_X5_greatestx
    rw [g1, bd_some]
    have es : stK (Am k) ch 5 v row t l w bf h d = oD (gF (fun st => sfB (Am k) h d st (min (v + 1) 6)) (fun st => bWo (Am k) ch (bBe (Am k) ch (min l 3 - 1)) w st h d) 8) := rfl
    rw [es, gF_congr (ok' := fun st => sfB (Am k) h d st (min (v + 1) 6)) (m' := fun st => bWo (Am k) ch (bBe (Am k) ch (min l 3 - 1)) w st h d) (fun i hi => s3 i hi) (fun _ _ => rfl)]
    cases e : gF (fun st => sfB (Am k) h d st (min (v + 1) 6)) (fun st => bWo (Am k) ch (bBe (Am k) ch (min l 3 - 1)) w st h d) 8 with
    | none =>
      show some (irm (nI 0) (nI 8), σ2) = some (nI 0, σ2)
      rw [nIrem (by omega) (by omega) (by omega)]
    | some x =>
      have hx := gF_lt _ _ _ _ e
      have hb := bWo_le (hQ.2.1 k hQ.1.2.1).1 hQ.1.2.2.2 (B := bBe (Am k) ch (min l 3 - 1)) (X := 5000000) (st := x) (y := h) (d := d) hw (fun i h' d' hi => Nat.le_trans (bBe_le (hQ.2.1 k hQ.1.2.1).1 hQ.1.2.2.2 (min l 3 - 1) i h' d' hi) (by omega))
      show some (irm (nI (8 * bWo (Am k) ch (bBe (Am k) ch (min l 3 - 1)) w x h d + x)) (nI 8), σ2) = some (nI x, σ2)
      generalize bWo (Am k) ch (bBe (Am k) ch (min l 3 - 1)) w x h d = z at *
      rw [nIrem (by omega) (by omega) (by omega), show (8 * z + x) % 8 = x by omega]
  · rw [if_neg (by decide), if_neg (by decide), if_neg (by decide), if_neg (by decide), if_neg (by decide), if_pos (by rfl)]
    obtain ⟨g1, ru, g2, g3⟩ := h6 rfl
    refine ⟨σ, ?_, cFr_refl _ _, hQ⟩
    rw [decide_eq_true g1, gd_true, g2, g3 σ (fun _ _ _ => rfl) t ht, bd_some]
    rfl
end PLAN2
