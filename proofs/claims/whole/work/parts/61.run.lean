/-! A RUN -/
theorem next_both {M : Nat} {Am : Nat → Mil} {k J J2 : Nat} {ch : Nat → Nat → Nat} {τ ν : Mem} {A : Mil} (hQ : cI0 M Am k J ch τ) (hm : mI0 k A J2 ch ν) {w sd now : Nat} (hw : w < 6) (hs : sd < 1000) (hnow : now < 2000) : ∃ r, r < 6 ∧ f_X10_nextBy (nI w) (irm (((nI sd * (31 : Int32)) + (nI now * (17 : Int32))) * (7 : Int32)) (1000 : Int32)) τ = some (nI r, τ) ∧ f_X12_nextWind (nI w) (nI sd) (nI now) ν = some (nI r, ν) := by
  have hch := hQ.1.2.2.2
  obtain ⟨u, hu⟩ : ∃ u, u = (sd * 31 + now * 17) * 7 % 1000 := ⟨_, rfl⟩
  have hu1 : u < 1000 := by rw [hu]; exact Nat.mod_lt _ (by omega)
  have e1 : irm (((nI sd * (31 : Int32)) + (nI now * (17 : Int32))) * (7 : Int32)) (1000 : Int32) = nI u := by
    rw [show (31 : Int32) = nI 31 from rfl, show (17 : Int32) = nI 17 from rfl, show (7 : Int32) = nI 7 from rfl, show (1000 : Int32) = nI 1000 from rfl, pk_mul, pk_mul, nI_add, pk_mul, nIrem (by omega) (by omega) (by omega), hu]
  have e2 : irm ((((31 : Int32) * nI sd) + ((17 : Int32) * nI now)) * (7 : Int32)) (1000 : Int32) = nI u := by
    rw [show (31 : Int32) = nI 31 from rfl, show (17 : Int32) = nI 17 from rfl, show (7 : Int32) = nI 7 from rfl, show (1000 : Int32) = nI 1000 from rfl, pk_mul, pk_mul, nI_add, pk_mul, nIrem (by omega) (by omega) (by omega), hu, Nat.mul_comm 31, Nat.mul_comm 17]
  have h6 : sumN (ch w) 6 = 1000 := by rw [sumN_6]; exact hch w hw
  have key : ∀ m i fu1 fu2 : Nat, ∀ (last : Int32), i + m = 6 → m < fu1 → m < fu2 → sumN (ch w) i ≤ u → ∃ r, r < 6 ∧ fx6 f_X10_nextBy_8 fu1 (nI w) (nI u) last (nI (sumN (ch w) i)) (nI i) τ = some (nI r, τ) ∧ fx5 f_X12_nextWind_24 fu2 (nI w) (nI u) (nI (sumN (ch w) i)) (nI i) ν = some (nI r, ν) := by
    intro m
    induction m with
    | zero =>
      intro i fu1 fu2 last hi h1 h2 h3
      have hi : i = 6 := by omega
      subst hi
      omega
    | succ m ih =>
      intro i fu1 fu2 last hi h1 h2 h3
      obtain ⟨fu1, rfl⟩ : ∃ z, fu1 = z + 1 := ⟨fu1 - 1, by omega⟩
      obtain ⟨fu2, rfl⟩ : ∃ z, fu2 = z + 1 := ⟨fu2 - 1, by omega⟩
      have hcl := chO_le hch hw (show i < 6 by omega)
      have es : sumN (ch w) (i + 1) = sumN (ch w) i + ch w i := rfl
      have e851 : ((851 : Int32) + ((6 : Int32) * nI w)) + nI i = nI (851 + 6 * w + i) := by simp only [li, pk_mul, nI_add]
      have ib8 : ib (nI (851 + 6 * w + i)) 1055 = true := ib_nI (by omega) (by omega)
      have tn8 : (nI (851 + 6 * w + i)).toNatClampNeg = 851 + 6 * w + i := nI_tn (by omega)
      have l1 := hm.2.2.2.2.1 w i hw (by omega)
      show ∃ r, r < 6 ∧ f_X10_nextBy_8 (fx6 f_X10_nextBy_8 fu1) _ _ _ _ _ _ = _ ∧ f_X12_nextWind_24 (fx5 f_X12_nextWind_24 fu2) _ _ _ _ _ = _
      by_cases q : sumN (ch w) (i + 1) ≤ u
      · obtain ⟨r, r0, r1, r2⟩ := ih (i + 1) fu1 fu2 (if nI (ch w i) ≤ 0 then last else nI i) (by omega) (by omega) (by omega) q
        refine ⟨r, r0, ?_, ?_⟩
        · rw [← r1]
          generalize fx6 f_X10_nextBy_8 fu1 = kk
          unfold f_X10_nextBy_8 f_X10_nextBy_48
          rw [if_neg (show ¬ (6 : Int32) ≤ nI i from nI_ge (a := i) (b := 6) (by omega) (by omega)), c_ch hQ hw (by omega), bd_some, nI_add, ← es, lt_eq, if_pos (nI_le q (by omega))]
          by_cases q2 : nI (ch w i) ≤ 0
          · rw [if_pos q2, if_pos q2, lt_eq, nI_1]
          · rw [if_neg q2, if_neg q2, lt_eq, nI_1]
        · rw [← r2]
          generalize fx5 f_X12_nextWind_24 fu2 = kk
          unfold f_X12_nextWind_24
          rw [if_neg (show ¬ (6 : Int32) ≤ nI i from nI_ge (a := i) (b := 6) (by omega) (by omega)), e851, ib8, gd_true, tn8, l1, nI_add, ← es, lt_eq, if_pos (nI_le q (by omega)), lt_eq, nI_1]
      · refine ⟨i, by omega, ?_, ?_⟩
        · generalize fx6 f_X10_nextBy_8 fu1 = kk
          unfold f_X10_nextBy_8 f_X10_nextBy_48
          rw [if_neg (show ¬ (6 : Int32) ≤ nI i from nI_ge (a := i) (b := 6) (by omega) (by omega)), c_ch hQ hw (by omega), bd_some, nI_add, ← es, lt_eq, if_neg (nI_ge (by omega) (by omega))]
        · generalize fx5 f_X12_nextWind_24 fu2 = kk
          unfold f_X12_nextWind_24
          rw [if_neg (show ¬ (6 : Int32) ≤ nI i from nI_ge (a := i) (b := 6) (by omega) (by omega)), e851, ib8, gd_true, tn8, l1, nI_add, ← es, lt_eq, if_neg (nI_ge (by omega) (by omega))]
  have hF : 6 < FU := by decide
  obtain ⟨r, r0, r1, r2⟩ := key 6 0 FU FU (nI w) (by omega) hF hF (Nat.zero_le _)
  refine ⟨r, r0, ?_, ?_⟩
  · unfold f_X10_nextBy
    rw [e1]
    exact r1
  · unfold f_X12_nextWind
    rw [e2, lt_eq]
    exact r2
/-- what a run leaves of the class's rows -/
def cF7 (M : Nat) (σ σ' : Mem) : Prop := (∀ c, c < 48 → c ≠ 7 → c ≠ 42 → c ≠ 43 → gI σ' c = gI σ c) ∧ ∀ j, j < M → gI σ' (mo j) = gI σ (mo j) ∧ ∀ i, 1 ≤ i → i ≤ 4 → gI σ' (mo j + i) = gI σ (mo j + i)
theorem cF7_refl (M : Nat) (σ : Mem) : cF7 M σ σ := ⟨fun _ _ _ _ _ => rfl, fun _ _ => ⟨rfl, fun _ _ _ => rfl⟩⟩
theorem cF7_trans {M : Nat} {σ τ υ : Mem} (h1 : cF7 M σ τ) (h2 : cF7 M τ υ) : cF7 M σ υ := ⟨fun c a b d e => (h2.1 c a b d e).trans (h1.1 c a b d e), fun j hj => ⟨(h2.2 j hj).1.trans (h1.2 j hj).1, fun i a b => ((h2.2 j hj).2 i a b).trans ((h1.2 j hj).2 i a b)⟩⟩
theorem cF7_r {M : Nat} {σ τ : Mem} (h : cFr M σ τ) : cF7 M σ τ := ⟨fun c a _ b d => h.1 c a b d, h.2⟩
theorem cSt_f7 {M : Nat} {kd v : Nat} {row : Nat → Nat} {σ τ : Mem} (h : cSt kd v row σ) (hf : cF7 M σ τ) : cSt kd v row τ := by
  obtain ⟨h1, h2, h3, h4, h5, h6⟩ := h
  have e := hf.1 41 (by omega) (by omega) (by omega) (by omega)
  refine ⟨h1, h2, h3, by rw [e]; exact h4, by rw [e]; exact h5, fun q => ?_⟩
  obtain ⟨g1, ru, g2, g3⟩ := h6 q
  exact ⟨by rw [e]; exact g1, ru, by rw [e]; exact g2, fun υ hυ t ht => g3 υ (fun c h8 hc => (hυ c h8 hc).trans (hf.1 c (by omega) (by omega) (by omega) (by omega))) t ht⟩
theorem cI0_7 {M : Nat} {Am : Nat → Mil} {k J : Nat} {ch : Nat → Nat → Nat} {σ τ : Mem} (hQ : cI0 M Am k J ch σ) (h1 : ∀ c, c ≠ 7 → c ≠ mo k + 5 → c ≠ mo k + 6 → gI τ c = gI σ c) (h2 : cHours (gI τ) k (Am k)) : cF7 M σ τ ∧ cI0 M Am k J ch τ := by
  obtain ⟨i1, i5, i6, i7, i8, i9, i10, i11, i12⟩ := hQ
  obtain ⟨o1, o2⟩ := one_mill i6 (a' := gI τ) (fun c hc a b => h1 c (by omega) a b) h2
  have u : ∀ c, c < 48 → c ≠ 7 → gI τ c = gI σ c := fun c hc h7 => h1 c h7 (by unfold mo; omega) (by unfold mo; omega)
  refine ⟨⟨fun c a b _ _ => u c a b, o1⟩, i1, fun j hj => cM_c (i5 j hj) (fun x _ _ => by rw [(o1 j hj).1]) (o1 j hj).2, o2, by rw [u 41 (by omega) (by omega)]; exact i7, by rw [u 41 (by omega) (by omega)]; exact i8, by rw [u 41 (by omega) (by omega)]; exact i9, ?_, fun w i hw hi => by rw [u 6 (by omega) (by omega)]; exact i11 w i hw hi, fun i hi => by rw [u 43 (by omega) (by omega)]; exact i12 i hi⟩
  intro n w h d a1 a2 a3 a4 a5 a6
  rw [u 43 (by omega) (by omega)] at a6
  rw [u 42 (by omega) (by omega)]
  exact i10 n w h d a1 a2 a3 a4 a5 a6
section RUN
variable {M : Nat} {Am : Nat → Mil} {k J J2 : Nat} {ch : Nat → Nat → Nat} {kd v : Nat} {row : Nat → Nat}
theorem fl_back (F0 : Int32) {fl : Nat} (h : fl < 2 ^ 30) : (F0 + nI fl - F0).toInt64 = lN fl := by
  have e : F0 + nI fl - F0 = nI fl := by
    rw [Int32.add_comm]
    exact Int32.add_sub_cancel _ _
  rw [e, nI_l (by omega)]
/-- the class goes on, having run away -/
theorem c_away {ν : Mem} {A : Mil} (hm : mI0 k A J2 ch ν) {n sd h d fl : Nat} {F0 : Int32} (hn : n ≤ 30) (hs : sd < 1000) (hh : h < 10) (hd : d < 10) (hfl : fl < 2 ^ 30) : ∀ (m t fu : Nat) (τ : Mem) (now w bf : Nat), t + m = n → m < fu → cI0 M Am k J ch τ → cSt kd v row τ → gI τ 7 1 = nI now → now + m < 2000 → gI τ 7 2 = nI h → gI τ 7 3 = nI d → gI τ 7 4 = F0 + nI fl → gI τ 7 5 = nI 1 → w < 6 → bf < 6 →
    ∃ σ', fx8 f_X11_run_141 fu (nI n) (nI sd) (mo k) F0 (nI bf) (nI w) (nI t) τ = some (lN fl, σ') ∧ cF7 M τ σ' ∧ cI0 M Am k J ch σ' ∧ gI σ' 7 0 = gI τ 7 0 ∧ gI σ' 7 1 = nI (now + m) ∧ gI σ' 7 2 = nI h ∧ gI σ' 7 3 = nI d ∧ gI σ' 7 4 = F0 + nI fl ∧ gI σ' 7 5 = nI 1 := by
  intro m
  induction m with
  | zero =>
    intro t fu τ now w bf hi hfu ht hst c1 hnow c2 c3 c4 c5 hw hb
    obtain ⟨fu, rfl⟩ : ∃ z, fu = z + 1 := ⟨fu - 1, by omega⟩
    refine ⟨τ, ?_, cF7_refl _ _, ht, rfl, c1, c2, c3, c4, c5⟩
    show f_X11_run_141 _ _ _ _ _ _ _ _ _ = _
    unfold f_X11_run_141
    rw [if_pos (nI_le (by omega) (by omega)), c4, fl_back F0 hfl]
  | succ m ih =>
    intro t fu τ now w bf hi hfu ht hst c1 hnow c2 c3 c4 c5 hw hb
    obtain ⟨fu, rfl⟩ : ∃ z, fu = z + 1 := ⟨fu - 1, by omega⟩
    obtain ⟨τ1, s1, s2, s3⟩ := c_settingAt ht hst (t := t) (l := n - t) (w := w) (bf := bf) (h := h) (d := d) (by omega) (by omega) (by omega) hw hb hh hd
    have r7 : gI τ1 7 = gI τ 7 := s2.1 7 (by omega) (by omega) (by omega)
    have g1 := c_goOn1 (k := k) (p2 := nI w) (p3 := nI (stK (Am k) ch kd v row t (n - t) w bf h d)) (σ := τ1) (t := now) (by rw [r7]; exact c1) (by rw [r7]; exact c5)
    obtain ⟨f7, q7⟩ := cI0_7 (τ := sI τ1 7 1 (nI (now + 1))) s3 (fun c a _ _ => gIr _ _ _ a) (fun w st h d q1 q2 q3 q4 => by
      rw [gIr _ _ _ (by unfold mo; omega)]
      exact s3.2.2.1 k s3.1.2.1 w st h d q1 q2 q3 q4)
    obtain ⟨r, r0, r1, -⟩ := next_both q7 hm (w := w) (sd := sd) (now := now + 1) hw hs (by omega)
    obtain ⟨σ', u1, u2, u3, u4, u5, u6⟩ := ih (t + 1) fu (sI τ1 7 1 (nI (now + 1))) (now + 1) r w (by omega) (by omega) q7 (cSt_f7 hst (cF7_trans (cF7_r s2) f7)) (gI_ss _ _ _ _) (by omega) (by simp (disch := omega) only [gI_ss, gI_sk, gI_sc]; rw [r7]; exact c2) (by simp (disch := omega) only [gI_ss, gI_sk, gI_sc]; rw [r7]; exact c3) (by simp (disch := omega) only [gI_ss, gI_sk, gI_sc]; rw [r7]; exact c4) (by simp (disch := omega) only [gI_ss, gI_sk, gI_sc]; rw [r7]; exact c5) r0 hw
    refine ⟨σ', ?_, cF7_trans (cF7_trans (cF7_r s2) f7) u2, u3, u4.trans (by simp (disch := omega) only [gI_ss, gI_sk, gI_sc]; rw [r7]), by rw [u5, show now + 1 + m = now + (m + 1) by omega], u6⟩
    rw [← u1]
    show f_X11_run_141 (fx8 f_X11_run_141 fu) _ _ _ _ _ _ _ _ = _
    generalize fx8 f_X11_run_141 fu = kk
    unfold f_X11_run_141
    rw [if_neg (nI_ge (by omega) (by omega)), c2, c3, nIsub (by omega), s1, bd_some, g1, bd_some, gI_ss, r1, bd_some, lt_eq, nI_1]
/-- both sides, as long as it goes -/
theorem run_both {μ1 : Mem} {n sd : Nat} {F0 ru : Int32} (hn : n ≤ 30) (hs : sd < 1000) {i : Nat} (hru : ru = nI i) (hi10 : i < 10) (z1 : gI μ1 1 (887 + i) = nI kd) (z2 : gI μ1 1 (897 + i) = nI v) (hS : mSt kd v row ru (gI μ1 1)) : ∀ (m t fu1 fu2 : Nat) (τ ν : Mem) (now h d fl w bf : Nat), t + m = n → m < fu1 → m < fu2 → cI0 M Am k J ch τ → cSt kd v row τ → gI τ 7 1 = nI now → now + m < 2000 → gI τ 7 2 = nI h → gI τ 7 3 = nI d → gI τ 7 4 = F0 + nI fl → fl ≤ t * 990 → gI τ 7 5 = nI 0 → w < 6 → bf < 6 → h < 10 → d < 10 → mI0 k (Am k) J2 ch ν → mFr J2 μ1 ν →
    ∃ (h' d' fl' : Nat) (aw : Bool) (σ' μ' : Mem), fx8 f_X11_run_141 fu1 (nI n) (nI sd) (mo k) F0 (nI bf) (nI w) (nI t) τ = some (lN fl', σ') ∧ fx12 f_X12_run_125 fu2 ru (nI n) (nI sd) (lN fl) (nI h) (nI d) (nI now) (nI w) (nI bf) (1 : Int32) (nI t) ν = f_X12_run_272 (nI n) (lN fl') (nI h') (nI d') (bI (!aw)) μ' ∧ fl' ≤ n * 990 ∧ h' < 10 ∧ d' < 10 ∧ cF7 M τ σ' ∧ cI0 M Am k J ch σ' ∧ gI σ' 7 0 = gI τ 7 0 ∧ gI σ' 7 1 = nI (now + m) ∧ gI σ' 7 2 = nI h' ∧ gI σ' 7 3 = nI d' ∧ gI σ' 7 4 = F0 + nI fl' ∧ gI σ' 7 5 = bI aw ∧ mI0 k (Am k) J2 ch μ' ∧ mFr J2 μ1 μ' := by
  intro m
  induction m with
  | zero =>
    intro t fu1 fu2 τ ν now h d fl w bf hi h1 h2 ht hst c1 hnow c2 c3 c4 hfl c5 hw hb hh hd hν hfr
    obtain ⟨fu1, rfl⟩ : ∃ z, fu1 = z + 1 := ⟨fu1 - 1, by omega⟩
    obtain ⟨fu2, rfl⟩ : ∃ z, fu2 = z + 1 := ⟨fu2 - 1, by omega⟩
    have htn : t = n := by omega
    subst htn
    refine ⟨h, d, fl, false, τ, ν, ?_, ?_, hfl, hh, hd, cF7_refl _ _, ht, rfl, c1, c2, c3, c4, c5, hν, hfr⟩
    · show f_X11_run_141 _ _ _ _ _ _ _ _ _ = _
      unfold f_X11_run_141
      rw [if_pos (nI_le (by omega) (by omega)), c4, fl_back F0 (by omega)]
    · show f_X12_run_125 (fx12 f_X12_run_125 fu2) _ _ _ _ _ _ _ _ _ _ _ _ = _
      generalize fx12 f_X12_run_125 fu2 = kk
      unfold f_X12_run_125
      rw [if_pos (nI_le (by omega) (by omega))]
      rfl
  | succ m ih =>
    intro t fu1 fu2 τ ν now h d fl w bf hi h1 h2 ht hst c1 hnow c2 c3 c4 hfl c5 hw hb hh hd hν hfr
    obtain ⟨fu1, rfl⟩ : ∃ z, fu1 = z + 1 := ⟨fu1 - 1, by omega⟩
    obtain ⟨fu2, rfl⟩ : ∃ z, fu2 = z + 1 := ⟨fu2 - 1, by omega⟩
    have b := hν.2.1.1
    -- the setting
    obtain ⟨τ1, s1, s2, s3⟩ := c_settingAt ht hst (t := t) (l := n - t) (w := w) (bf := bf) (h := h) (d := d) (by omega) (by omega) (by omega) hw hb hh hd
    obtain ⟨ν1, t1, t2, t3⟩ := m_settingOf hν (ru := ru) (by rw [hfr.1 1 (by omega)]; exact hS) (t := t) (l := n - t) (w := w) (bf := bf) (h := h) (d := d) (by omega) (by omega) (by omega) hw hb hh hd
    have hst8 : stK (Am k) ch kd v row t (n - t) w bf h d < 8 := stK_lt _ _ hst.2.1 hst.2.2.1 _ _ _ _ _ _
    generalize stK (Am k) ch kd v row t (n - t) w bf h d = st at *
    have r7 : gI τ1 7 = gI τ 7 := s2.1 7 (by omega) (by omega) (by omega)
    -- the hour
    obtain ⟨τ2, g1, g2, g3, g4, g5, g6, g7, g8, g9⟩ := c_goOn0 (s3.2.1 k s3.1.2.1) (s3.2.2.1 k s3.1.2.1) (t := now) hw hst8 hh hd (by omega) (by rw [r7]; exact c1) (by rw [r7]; exact c2) (by rw [r7]; exact c3) (by rw [r7]; exact c5)
    obtain ⟨f7, q7⟩ := cI0_7 (τ := τ2) s3 g8 g9
    obtain ⟨ν2, y1, y2, y3, y4⟩ := m_hourPlace t3 hw hst8 hh hd
    obtain ⟨v6, v7, v8, -⟩ := m_at y3 hw hst8 hh hd y4
    obtain ⟨r, r0, r1, r2⟩ := next_both q7 y3 (w := w) (sd := sd) (now := now + 1) hw hs (by omega)
    have hH := hHe_le (Am k) w st hh d
    have hD := hDu_le (Am k) w st h hd
    have hle := hMe_le b w st h d
    have e74 : gI τ2 7 4 = F0 + nI (fl + hMe (Am k) w st h d) := by
      rw [g6, r7, c4, Int32.add_assoc, nI_add]
    have ex : (887 : Int32) + ru = nI (887 + i) := by rw [hru]; exact nI_add 887 i
    have ey : (897 : Int32) + ru = nI (897 + i) := by rw [hru]; exact nI_add 897 i
    have ib1 : ib (nI (887 + i)) 1055 = true := ib_nI (by omega) (by omega)
    have ib2 : ib (nI (897 + i)) 1055 = true := ib_nI (by omega) (by omega)
    have tn1 : (nI (887 + i)).toNatClampNeg = 887 + i := nI_tn (by omega)
    have tn2 : (nI (897 + i)).toNatClampNeg = 897 + i := nI_tn (by omega)
    have w1 : gI ν 1 (887 + i) = nI kd := by rw [hfr.1 1 (by omega)]; exact z1
    have w2 : gI ν 1 (897 + i) = nI v := by rw [hfr.1 1 (by omega)]; exact z2
    have hx := hP_lt hw hst8 hh hd
    generalize hP w st h d = x at *
    have ibx : ib (nI x) 4800 = true := ib_nI hx (by omega)
    have tnx : (nI x).toNatClampNeg = x := nI_tn (by omega)
    have eC : f_X11_run_141 (fx8 f_X11_run_141 fu1) (nI n) (nI sd) (mo k) F0 (nI bf) (nI w) (nI t) τ = fx8 f_X11_run_141 fu1 (nI n) (nI sd) (mo k) F0 (nI w) (nI r) (nI (t + 1)) τ2 := by
      generalize fx8 f_X11_run_141 fu1 = kk
      unfold f_X11_run_141
      rw [if_neg (nI_ge (by omega) (by omega)), c2, c3, nIsub (by omega), s1, bd_some, g1, bd_some, g3, r1, bd_some, lt_eq, nI_1]
    have eM : ∀ s0 : Int32, s0 = bI (!hAw (Am k) w st h d) → f_X12_run_125 (fx12 f_X12_run_125 fu2) ru (nI n) (nI sd) (lN fl) (nI h) (nI d) (nI now) (nI w) (nI bf) (1 : Int32) (nI t) ν = fx12 f_X12_run_125 fu2 ru (nI n) (nI sd) (lN (fl + hMe (Am k) w st h d)) (nI (hHe (Am k) w st h d)) (nI (hDu (Am k) w st h d)) (nI (now + 1)) (nI r) (nI w) s0 (nI (t + 1)) ν2 := by
      intro s0 hs0
      generalize fx12 f_X12_run_125 fu2 = kk
      unfold f_X12_run_125
      rw [if_neg (nI_ge (by omega) (by omega)), if_neg (by decide), ex, ey, ib1, gd_true, ib2, gd_true, tn1, tn2, w1, w2, nIsub (by omega), t1, bd_some, y1, bd_some, ibx, gd_true, tnx, v6]
      have e227 : ∀ (z0 : Int32) (a : Nat), f_X12_run_227 kk ru (nI n) (nI sd) (nI now) (nI w) z0 (nI t) (nI x) (lN fl) (lN a) ν2 = kk ru (nI n) (nI sd) (lN (fl + a)) (nI (hHe (Am k) w st h d)) (nI (hDu (Am k) w st h d)) (nI (now + 1)) (nI r) (nI w) z0 (nI (t + 1)) ν2 := fun z0 a => by
        unfold f_X12_run_227
        rw [lN_add, lt_eq, ibx, gd_true, tnx, v7, lt_eq, gd_true, v8, lt_eq, nI_1, lt_eq, r2, bd_some, nI_1, lt_eq]
      unfold f_X12_run_206
      by_cases qa : hAw (Am k) w st h d = true
      · have hneg : gN (Am k) w st h d < 0 := by rw [gN_neg b]; exact qa
        rw [if_pos hneg, if_pos rfl, show (0 : Int64) = lN 0 from rfl, e227, hMe_aw qa, hs0, qa]
        rfl
      · have hneg : ¬ gN (Am k) w st h d < 0 := by rw [gN_neg b]; exact qa
        have eg : gN (Am k) w st h d = nI (hMe (Am k) w st h d) := if_neg qa
        rw [if_neg hneg, if_neg (show ¬ (1 : Int32) = 0 by decide), ibx, gd_true, tnx, v6, eg, nI_l (by omega), e227, hs0, Bool.eq_false_iff.mpr qa]
        rfl
    show ∃ (h' d' fl' : Nat) (aw : Bool) (σ' μ' : Mem), f_X11_run_141 (fx8 f_X11_run_141 fu1) _ _ _ _ _ _ _ _ = _ ∧ f_X12_run_125 (fx12 f_X12_run_125 fu2) _ _ _ _ _ _ _ _ _ _ _ _ = _ ∧ _
    have hst2 := cSt_f7 hst (cF7_trans (cF7_r s2) f7)
    have hfr2 := mFr_trans (mFr_trans hfr t2) y2
    by_cases qa : hAw (Am k) w st h d = true
    · -- it has run away: the model stops, the class counts the hours
      have e75 : gI τ2 7 5 = nI 1 := by rw [g7, qa]; rfl
      obtain ⟨σ', u1, u2, u3, u4, u5, u6, u7, u8, u9⟩ := c_away y3 hn hs (h := hHe (Am k) w st h d) (d := hDu (Am k) w st h d) (fl := fl + hMe (Am k) w st h d) (F0 := F0) (by omega) (by omega) (by omega) m (t + 1) fu1 τ2 (now + 1) r w (by omega) (by omega) q7 hst2 g3 (by omega) g4 g5 e74 e75 r0 hw
      refine ⟨hHe (Am k) w st h d, hDu (Am k) w st h d, fl + hMe (Am k) w st h d, true, σ', ν2, ?_, ?_, ?_, by omega, by omega, cF7_trans (cF7_trans (cF7_r s2) f7) u2, u3, u4.trans (g2.trans (by rw [r7])), by rw [u5, show now + 1 + m = now + (m + 1) by omega], u6, u7, u8, u9, y3, hfr2⟩
      · rw [eC]
        exact u1
      · rw [eM _ rfl, qa]
        obtain ⟨fu2, rfl⟩ : ∃ z, fu2 = z + 1 := ⟨fu2 - 1, by omega⟩
        show f_X12_run_125 (fx12 f_X12_run_125 fu2) _ _ _ _ _ _ _ _ _ _ _ _ = _
        generalize fx12 f_X12_run_125 fu2 = kk
        unfold f_X12_run_125
        by_cases q9 : n ≤ t + 1
        · rw [if_pos (nI_le q9 (by omega))]
        · rw [if_neg (nI_ge (by omega) (by omega)), if_pos (by rfl)]
      · have e1 : (t + 1) * 990 ≤ n * 990 := Nat.mul_le_mul_right _ (by omega)
        omega
    · have e75 : gI τ2 7 5 = nI 0 := by rw [g7, Bool.eq_false_iff.mpr qa]; rfl
      obtain ⟨h', d', fl', aw, σ', μ', u1, u2, u3, u4, u5, u6, u7, u8, u9, u10⟩ := ih (t + 1) fu1 fu2 τ2 ν2 (now + 1) (hHe (Am k) w st h d) (hDu (Am k) w st h d) (fl + hMe (Am k) w st h d) r w (by omega) (by omega) (by omega) q7 hst2 g3 (by omega) g4 g5 e74 (by omega) e75 r0 hw (by omega) (by omega) y3 hfr2
      refine ⟨h', d', fl', aw, σ', μ', ?_, ?_, u3, u4, u5, cF7_trans (cF7_trans (cF7_r s2) f7) u6, u7, u8.trans (g2.trans (by rw [r7])), by rw [u9, show now + 1 + m = now + (m + 1) by omega], u10⟩
      · rw [eC]
        exact u1
      · rw [eM 1 (by rw [Bool.eq_false_iff.mpr qa]; rfl)]
        exact u2
end RUN
