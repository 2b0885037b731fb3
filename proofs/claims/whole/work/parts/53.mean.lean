/-! THE PLANNER of the class: means -/
def ixM (t p w h d : Nat) : Nat := (((t * 6 + p) * 6 + w) * 10 + h) * 10 + d
theorem ixM_lt {t p w h d : Nat} (ht : t < 6) (hp : p < 6) (hw : w < 6) (hh : h < 10) (hd : d < 10) : ixM t p w h d < 21600 := by
  unfold ixM
  omega
theorem ixM_inj {t p w h d t' p' w' h' d' : Nat} (e : ixM t' p' w' h' d' = ixM t p w h d) (hp : p < 6) (hw : w < 6) (hh : h < 10) (hd : d < 10) (hp' : p' < 6) (hw' : w' < 6) (hh' : h' < 10) (hd' : d' < 10) : t' = t ∧ p' = p ∧ w' = w ∧ h' = h ∧ d' = d := by
  unfold ixM at e
  omega
def cMn (A : Mil) (ch : Nat → Nat → Nat) (sf : Nat → Nat → Nat → Nat → Nat → Nat → Nat) (dz : Int32) (aw : Bool) (n K : Nat) (a : Nat → Nat → Int32) : Prop := ∀ t p w h d, t < n → p < 6 → w < 6 → h < 10 → d < 10 → a 45 (ixM t p w h d) = nI K → a 44 (ixM t p w h d) = nI (mMe A ch sf dz aw (n - t) t w p h d)
def cFm (M : Nat) (σ σ' : Mem) : Prop := (∀ c, c < 48 → (c < 42 ∨ 45 < c) → gI σ' c = gI σ c) ∧ ∀ j, j < M → gI σ' (mo j) = gI σ (mo j) ∧ ∀ i, 1 ≤ i → i ≤ 4 → gI σ' (mo j + i) = gI σ (mo j + i)
theorem cFm_refl (M : Nat) (σ : Mem) : cFm M σ σ := ⟨fun _ _ _ => rfl, fun _ _ => ⟨rfl, fun _ _ _ => rfl⟩⟩
theorem cFm_trans {M : Nat} {σ τ υ : Mem} (h1 : cFm M σ τ) (h2 : cFm M τ υ) : cFm M σ υ := ⟨fun c a b => (h2.1 c a b).trans (h1.1 c a b), fun j hj => ⟨(h2.2 j hj).1.trans (h1.2 j hj).1, fun i a b => ((h2.2 j hj).2 i a b).trans ((h1.2 j hj).2 i a b)⟩⟩
theorem cFm_of {M : Nat} {σ τ : Mem} (h : cFr M σ τ) : cFm M σ τ := ⟨fun c a b => h.1 c a (by omega) (by omega), h.2⟩
theorem cSt_fm {M : Nat} {kd v : Nat} {row : Nat → Nat} {σ τ : Mem} (h : cSt kd v row σ) (hf : cFm M σ τ) : cSt kd v row τ := by
  obtain ⟨h1, h2, h3, h4, h5, h6⟩ := h
  have e := hf.1 41 (by omega) (by omega)
  refine ⟨h1, h2, h3, by rw [e]; exact h4, by rw [e]; exact h5, fun q => ?_⟩
  obtain ⟨g1, ru, g2, g3⟩ := h6 q
  exact ⟨by rw [e]; exact g1, ru, by rw [e]; exact g2, fun υ hυ t ht => g3 υ (fun c h8 hc => (hυ c h8 hc).trans (hf.1 c (by omega) (by omega))) t ht⟩
section MEAN
variable {M : Nat} {Am : Nat → Mil} {k J : Nat} {ch : Nat → Nat → Nat} {kd v : Nat} {row : Nat → Nat} {dz : Int32} {aw : Bool} {n K : Nat}
def cI1 (M : Nat) (Am : Nat → Mil) (k J : Nat) (ch : Nat → Nat → Nat) (kd v : Nat) (row : Nat → Nat) (dz : Int32) (aw : Bool) (n K : Nat) (σ : Mem) : Prop := cI0 M Am k J ch σ ∧ cSt kd v row σ ∧ n ≤ 6 ∧ gI σ 41 12 = nI n ∧ gI σ 41 13 = dz ∧ gI σ 41 14 = bI aw ∧ gI σ 41 5 = nI K ∧ cMn (Am k) ch (stK (Am k) ch kd v row) dz aw n K (gI σ) ∧ ∀ i, i < 21600 → le_ (gI σ 45 i) K
theorem cI1_fr {σ τ : Mem} (h : cI1 M Am k J ch kd v row dz aw n K σ) (hf : cFr M σ τ) (h0 : cI0 M Am k J ch τ) : cI1 M Am k J ch kd v row dz aw n K τ := by
  obtain ⟨i1, i2, i3, i4, i5, i6, i7, i8, i9⟩ := h
  have e := hf.1 41 (by omega) (by omega) (by omega)
  refine ⟨h0, cSt_fr i2 hf, i3, by rw [e]; exact i4, by rw [e]; exact i5, by rw [e]; exact i6, by rw [e]; exact i7, ?_, fun i hi => by rw [hf.1 45 (by omega) (by omega) (by omega)]; exact i9 i hi⟩
  intro t p w h d a1 a2 a3 a4 a5 a6
  rw [hf.1 45 (by omega) (by omega) (by omega)] at a6
  rw [hf.1 44 (by omega) (by omega) (by omega)]
  exact i8 t p w h d a1 a2 a3 a4 a5 a6
def rcM (M : Nat) (Am : Nat → Mil) (k J : Nat) (ch : Nat → Nat → Nat) (kd v : Nat) (row : Nat → Nat) (dz : Int32) (aw : Bool) (n K : Nat) (r : Nat) (rc : Int32 → Int32 → Int32 → Int32 → Int32 → Mem → Option (Int32 × Mem)) : Prop := ∀ (τ : Mem) (t w bf h d : Nat), cI1 M Am k J ch kd v row dz aw n K τ → t + r = n → w < 6 → bf < 6 → h < 10 → d < 10 → ∃ τ', rc (nI t) (nI w) (nI bf) (nI h) (nI d) τ = some (nI (mMe (Am k) ch (stK (Am k) ch kd v row) dz aw r t w bf h d), τ') ∧ cFm M τ τ' ∧ cI1 M Am k J ch kd v row dz aw n K τ'
theorem c_mean46 {rc : Int32 → Int32 → Int32 → Int32 → Int32 → Mem → Option (Int32 × Mem)} {r : Nat} (hrc : 0 < r → rcM M Am k J ch kd v row dz aw n K r rc) {σ : Mem} (hQ : cI1 M Am k J ch kd v row dz aw n K σ) {t w h d me : Nat} {x : Int32} (htr : t + 1 + r = n) (hw : w < 6) (hh : h < 10) (hd : d < 10) (hme : me ≤ 990)
    (ea : ∀ τ, f_X3_isAway x τ = some (nI 0, τ)) (eh : ∀ τ, f_X3_heatOf x τ = some (nI h, τ)) (ed : ∀ τ, f_X3_dullOf x τ = some (nI d, τ)) (em : ∀ τ, f_X3_mealOf x τ = some (nI me, τ)) :
    ∃ σ', f_X5_meanOf_46 rc (nI t) (nI w) x σ = some (nI ((if aw = true then 0 else 1000 * me) + sum6 (fun i => ch w i * mMe (Am k) ch (stK (Am k) ch kd v row) dz aw r (t + 1) i w h d) / 1000), σ') ∧ cFm M σ σ' ∧ cI1 M Am k J ch kd v row dz aw n K σ' := by
  have b := (hQ.1.2.1 k hQ.1.1.2.1).1
  have hch := hQ.1.1.2.2.2
  have hn6 := hQ.2.2.1
  obtain ⟨g, hg⟩ : ∃ g : Nat → Nat, g = fun i => mMe (Am k) ch (stK (Am k) ch kd v row) dz aw r (t + 1) i w h d := ⟨_, rfl⟩
  have hgi : ∀ i, mMe (Am k) ch (stK (Am k) ch kd v row) dz aw r (t + 1) i w h d = g i := fun i => by rw [hg]
  have hgb : ∀ i, i < 6 → g i ≤ 6000000 := fun i hi => by
    rw [← hgi]
    exact Nat.le_trans (mMe_le b hch _ dz aw r (t + 1) i w h d hi) (by omega)
  have hsum := (bh_le hch hw hgb).1
  have hquo := (bh_le hch hw hgb).2
  have e6 : sum6 (fun i => ch w i * mMe (Am k) ch (stK (Am k) ch kd v row) dz aw r (t + 1) i w h d) = sum6 (fun i => ch w i * g i) := by rw [hg]
  rw [e6]
  have stop : ∀ τ, cI1 M Am k J ch kd v row dz aw n K τ → f_X5_meanOf_144 rc x (lN (sum6 (fun i => ch w i * g i))) τ = some (nI ((if aw = true then 0 else 1000 * me) + sum6 (fun i => ch w i * g i) / 1000), τ) := by
    intro τ hτ
    have l14 := hτ.2.2.2.2.2.1
    unfold f_X5_meanOf_144 f_X5_meanOf_164
    rw [l14, show (1000 : Int64) = lN 1000 from rfl, lNdiv (by omega) (by omega), lN_i]
    cases aw with
    | true =>
      rw [if_neg (by decide), show (0 : Int32) = nI 0 from rfl, nI_add]
      rfl
    | false =>
      rw [if_pos (by rfl), em, bd_some, show (1000 : Int32) = nI 1000 from rfl, pk_mul, nI_add, Nat.mul_comm]
      rfl
  unfold f_X5_meanOf_46
  rw [ea, bd_some, if_pos (by rfl)]
  by_cases q1 : r = 0
  · refine ⟨σ, ?_, cFm_refl _ _, hQ⟩
    have e0 : sum6 (fun i => ch w i * g i) = 0 := by
      rw [hg, q1]
      rfl
    have s := stop σ hQ
    rw [e0] at s
    rw [e0, ← s]
    have l12 := hQ.2.2.2.1
    obtain ⟨fu, hfu⟩ : ∃ fu, FU = fu + 1 := ⟨5999, rfl⟩
    rw [hfu]
    show f_X5_meanOf_74 rc (fx6 (f_X5_meanOf_74 rc) fu) _ _ _ _ _ _ = _
    generalize fx6 (f_X5_meanOf_74 rc) fu = kk
    unfold f_X5_meanOf_74
    rw [if_neg (by decide), l12, nI_1, if_pos (nI_le (by omega) (by omega))]
    rfl
  · have key : ∀ m i fu : Nat, ∀ τ : Mem, i + m = 6 → m < fu → cI1 M Am k J ch kd v row dz aw n K τ → ∃ σ', fx6 (f_X5_meanOf_74 rc) fu (nI t) (nI w) x (lN (sumN (fun i => ch w i * g i) i)) (nI i) τ = some (nI ((if aw = true then 0 else 1000 * me) + sum6 (fun i => ch w i * g i) / 1000), σ') ∧ cFm M τ σ' ∧ cI1 M Am k J ch kd v row dz aw n K σ' := by
      intro m
      induction m with
      | zero =>
        intro i fu τ hi hf ht
        obtain ⟨fu, rfl⟩ : ∃ z, fu = z + 1 := ⟨fu - 1, by omega⟩
        have hi : i = 6 := by omega
        subst hi
        refine ⟨τ, ?_, cFm_refl _ _, ht⟩
        rw [sumN_6, ← stop τ ht]
        show f_X5_meanOf_74 rc _ _ _ _ _ _ _ = _
        unfold f_X5_meanOf_74
        exact if_pos (by decide)
      | succ m ih =>
        intro i fu τ hi hf ht
        obtain ⟨fu, rfl⟩ : ∃ z, fu = z + 1 := ⟨fu - 1, by omega⟩
        have hcl := chO_le hch hw (show i < 6 by omega)
        have es : sumN (fun i => ch w i * g i) (i + 1) = sumN (fun i => ch w i * g i) i + ch w i * g i := rfl
        have l12 := ht.2.2.2.1
        have hd7 : decide (gI τ 41 7 = nI 5) = true := decide_eq_true ht.1.2.2.2.2.1
        by_cases q0 : ch w i = 0
        · obtain ⟨σ', u1, u2, u3⟩ := ih (i + 1) fu τ (by omega) (by omega) ht
          refine ⟨σ', ?_, u2, u3⟩
          have es0 : sumN (fun i => ch w i * g i) (i + 1) = sumN (fun i => ch w i * g i) i := by
            rw [es, q0, Nat.zero_mul]
            rfl
          rw [← u1, es0]
          show f_X5_meanOf_74 rc (fx6 (f_X5_meanOf_74 rc) fu) _ _ _ _ _ _ = _
          generalize fx6 (f_X5_meanOf_74 rc) fu = kk
          unfold f_X5_meanOf_74 f_X5_meanOf_138
          rw [if_neg (show ¬ (6 : Int32) ≤ nI i from nI_ge (a := i) (b := 6) (by omega) (by omega)), l12, nI_1, if_neg (nI_ge (by omega) (by omega)), hd7, gd_true, c_ch ht.1 hw (by omega), bd_some, q0, if_pos (by decide), lt_eq, nI_1]
        · obtain ⟨τ', r1, r2, r3⟩ := hrc (by omega) τ (t + 1) i w h d ht htr (by omega) hw hh hd
          obtain ⟨σ', u1, u2, u3⟩ := ih (i + 1) fu τ' (by omega) (by omega) r3
          refine ⟨σ', ?_, cFm_trans r2 u2, u3⟩
          have hgg := hgb i (by omega)
          rw [← u1, es]
          show f_X5_meanOf_74 rc (fx6 (f_X5_meanOf_74 rc) fu) _ _ _ _ _ _ = _
          generalize fx6 (f_X5_meanOf_74 rc) fu = kk
          unfold f_X5_meanOf_74 f_X5_meanOf_138
          rw [if_neg (show ¬ (6 : Int32) ≤ nI i from nI_ge (a := i) (b := 6) (by omega) (by omega)), l12, nI_1, if_neg (nI_ge (by omega) (by omega)), hd7, gd_true, c_ch ht.1 hw (by omega), bd_some, if_neg (show ¬ nI (ch w i) ≤ 0 from nI_ge (a := 0) (by omega) (by omega)), eh, bd_some, ed, bd_some]
          rw [r1, bd_some, lt_eq, lt_eq, nI_1, hgi, nI_l (by omega), nI_l (by omega), lN_mul, lN_add]
    have hF : 6 < FU := by decide
    exact key 6 0 FU σ (by omega) hF hQ
theorem c_meanOf {rc : Int32 → Int32 → Int32 → Int32 → Int32 → Mem → Option (Int32 × Mem)} {r : Nat} (hrc : 0 < r → rcM M Am k J ch kd v row dz aw n K r rc) {σ : Mem} (hQ : cI1 M Am k J ch kd v row dz aw n K σ) {t w bf h d : Nat} (htr : t + 1 + r = n) (hw : w < 6) (hb : bf < 6) (hh : h < 10) (hd : d < 10) :
    ∃ σ', f_X5_meanOf rc (nI t) (nI w) (nI bf) (nI h) (nI d) σ = some (nI (mMe (Am k) ch (stK (Am k) ch kd v row) dz aw (r + 1) t w bf h d), σ') ∧ cFm M σ σ' ∧ cI1 M Am k J ch kd v row dz aw n K σ' := by
  have b := (hQ.1.2.1 k hQ.1.1.2.1).1
  have hk5 : k < 5 := by have := hQ.1.1; omega
  obtain ⟨q1, q2, q3, q4, q5, q6, q7, q8, q9⟩ := id hQ
  have em : mMe (Am k) ch (stK (Am k) ch kd v row) dz aw (r + 1) t w bf h d =
    if nI t = dz then sum6 (fun i => ch w i * mMe (Am k) ch (stK (Am k) ch kd v row) dz aw r (t + 1) i w 0 0) / 1000
    else if hAw (Am k) w (stK (Am k) ch kd v row t (r + 1) w bf h d) h d = true then (if aw = true then 1000000 else 0)
    else (if aw = true then 0 else 1000 * hMe (Am k) w (stK (Am k) ch kd v row t (r + 1) w bf h d) h d) + sum6 (fun i => ch w i * mMe (Am k) ch (stK (Am k) ch kd v row) dz aw r (t + 1) i w (hHe (Am k) w (stK (Am k) ch kd v row t (r + 1) w bf h d) h d) (hDu (Am k) w (stK (Am k) ch kd v row t (r + 1) w bf h d) h d)) / 1000 := rfl
  rw [em]
  unfold f_X5_meanOf
  rw [q5]
  by_cases qd : nI t = dz
  · rw [if_pos qd, if_pos qd]
    obtain ⟨σ', s1, s2⟩ := c_mean46 hrc hQ (x := 0) (t := t) (w := w) (h := 0) (d := 0) (me := 0) htr hw (by omega) (by omega) (by omega) (fun _ => rfl) (fun _ => rfl) (fun _ => rfl) (fun _ => rfl)
    refine ⟨σ', ?_, s2⟩
    rw [s1]
    have e0 : (if aw = true then 0 else 1000 * 0) = 0 := by cases aw <;> rfl
    rw [e0, Nat.zero_add]
  · rw [if_neg qd, if_neg qd, q4, nIsub (show t ≤ n by omega), show n - t = r + 1 by omega]
    obtain ⟨σ1, s1, s2, s3⟩ := c_settingAt q1 q2 (t := t) (l := r + 1) (w := w) (bf := bf) (h := h) (d := d) (by omega) (by omega) (by omega) hw hb hh hd
    have hst : stK (Am k) ch kd v row t (r + 1) w bf h d < 8 := stK_lt _ _ q2.2.1 q2.2.2.1 _ _ _ _ _ _
    generalize stK (Am k) ch kd v row t (r + 1) w bf h d = st at *
    have hQ1 := cI1_fr hQ s2 s3
    obtain ⟨σ2, t1, t2, t3⟩ := c_hb s3 hw hst hh hd
    have hQ2 := cI1_fr hQ1 t2 t3
    have l41 : gI σ1 41 6 = nI (mo k) := s3.2.2.2.1
    rw [s1, bd_some, l41, im_mo hk5, gd_true, tn_mo hk5, t1, bd_some]
    by_cases qa : hAw (Am k) w st h d = true
    · rw [if_pos qa]
      refine ⟨σ2, ?_, cFm_trans (cFm_of s2) (cFm_of t2), hQ2⟩
      have l14 := hQ2.2.2.2.2.2.1
      unfold f_X5_meanOf_46
      rw [c_isAway b w st hh hd, bd_some, if_neg (by rw [qa]; decide), l14]
      cases aw <;> rfl
    · rw [if_neg qa]
      have hHH := hHe_le (Am k) w st hh d
      have hDD := hDu_le (Am k) w st h hd
      obtain ⟨σ', u1, u2, u3⟩ := c_mean46 hrc hQ2 (x := nI (hI (Am k) w st h d)) (t := t) (w := w) (h := hHe (Am k) w st h d) (d := hDu (Am k) w st h d) (me := hMe (Am k) w st h d) htr hw (by omega) (by omega) (hMe_le b _ _ _ _) (fun τ => by rw [c_isAway b w st hh hd, Bool.eq_false_iff.mpr qa]; rfl) (fun τ => c_heatOf b w st hh hd τ) (fun τ => c_dullOf b w st hh hd τ) (fun τ => c_mealOf b w st hh hd τ)
      exact ⟨σ', u1, cFm_trans (cFm_trans (cFm_of s2) (cFm_of t2)) u2, u3⟩
theorem c_meanFromN : ∀ (r : Nat) (fu : Nat), r < fu → rcM M Am k J ch kd v row dz aw n K r (fx6 f_X5_meanFrom_F fu) := by
  intro r
  induction r with
  | zero =>
    intro fu hf τ t w bf h d hτ htr hw hb hh hd
    obtain ⟨fu, rfl⟩ : ∃ z, fu = z + 1 := ⟨fu - 1, by omega⟩
    refine ⟨τ, ?_, cFm_refl _ _, hτ⟩
    have l12 := hτ.2.2.2.1
    have hn6 := hτ.2.2.1
    show f_X5_meanFrom_F (fx6 f_X5_meanFrom_F fu) _ _ _ _ _ _ = _
    generalize fx6 f_X5_meanFrom_F fu = kk
    unfold f_X5_meanFrom_F f_X5_meanFrom_13
    have hle : nI n ≤ nI t := nI_le (by omega) (by omega)
    rw [l12]
    simp only [lt_eq, if_pos hle]
    split
    · first
        | rfl
        | (rw [lt_eq, if_pos hle]; rfl)
        | (rw [if_pos hle]; rfl)
    · first
        | rfl
        | (rw [lt_eq, if_pos hle]; rfl)
        | (rw [if_pos hle]; rfl)
  | succ r ih =>
    intro fu hf τ t w bf h d hτ htr hw hb hh hd
    obtain ⟨fu, rfl⟩ : ∃ z, fu = z + 1 := ⟨fu - 1, by omega⟩
    have hrc := ih fu (by omega)
    obtain ⟨q1, q2, q3, q4, q5, q6, q7, q8, q9⟩ := id hτ
    -- by the place of the wind before
    have main : ∀ p : Nat, p < 6 → (∀ r' t' w' h' d', mMe (Am k) ch (stK (Am k) ch kd v row) dz aw r' t' w' p h' d' = mMe (Am k) ch (stK (Am k) ch kd v row) dz aw r' t' w' bf h' d') → ∃ τ', f_X5_meanFrom_13 (fx6 f_X5_meanFrom_F fu) (nI t) (nI w) (nI bf) (nI h) (nI d) (nI p) τ = some (nI (mMe (Am k) ch (stK (Am k) ch kd v row) dz aw (r + 1) t w bf h d), τ') ∧ cFm M τ τ' ∧ cI1 M Am k J ch kd v row dz aw n K τ' := by
      intro p hp hpm
      have hx := ixM_lt (show t < 6 by omega) hp hw hh hd
      have ex : (((((nI t * (6 : Int32)) + nI p) * (6 : Int32)) + nI w) * (100 : Int32)) + (nI h * (10 : Int32)) + nI d = nI (ixM t p w h d) := by
        have e : ((t * 6 + p) * 6 + w) * 100 + h * 10 + d = ixM t p w h d := by
          unfold ixM
          omega
        rw [← e]
        simp only [li, pk_mul, nI_add]
      have ibx : ib (nI (ixM t p w h d)) 21600 = true := ib_nI hx (by omega)
      have tnx : (nI (ixM t p w h d)).toNatClampNeg = ixM t p w h d := nI_tn (by omega)
      have start : f_X5_meanFrom_13 (fx6 f_X5_meanFrom_F fu) (nI t) (nI w) (nI bf) (nI h) (nI d) (nI p) τ = if gI τ 45 (ixM t p w h d) = nI K then some (gI τ 44 (ixM t p w h d), τ) else
          bd (f_X5_meanOf (fx6 f_X5_meanFrom_F fu) (nI t) (nI w) (nI bf) (nI h) (nI d) τ) fun r_9 σ_10 => lt (sI σ_10 44 (ixM t p w h d) r_9) fun σ_12 => lt (sI σ_12 45 (ixM t p w h d) (gI σ_12 41 5)) fun σ_14 => some (gI σ_14 44 (ixM t p w h d), σ_14) := by
        generalize fx6 f_X5_meanFrom_F fu = kk
        unfold f_X5_meanFrom_13
        rw [ex, lt_eq, q4, if_neg (show ¬ nI n ≤ nI t from nI_ge (by omega) (by omega)), if_neg (nI_pos (by omega)), if_pos (show nI (ixM t p w h d) < (21600 : Int32) from nI_lt (b := 21600) hx (by omega)), q7]
        simp only [ibx, tnx, gd_true]
      rw [start]
      by_cases q : gI τ 45 (ixM t p w h d) = nI K
      · rw [if_pos q]
        have e := q8 t p w h d (by omega) hp hw hh hd q
        rw [show n - t = r + 1 by omega, hpm] at e
        rw [e]
        exact ⟨τ, rfl, cFm_refl _ _, hτ⟩
      · rw [if_neg q]
        obtain ⟨σ9, g1, g2, g3⟩ := c_meanOf (r := r) (fun _ => hrc) hτ (t := t) (w := w) (bf := bf) (h := h) (d := d) (by omega) hw hb hh hd
        rw [g1, bd_some]
        obtain ⟨p1, p2, p3, p4, p5, p6, p7, p8, p9⟩ := id g3
        have l9 : gI (sI σ9 44 (ixM t p w h d) (nI (mMe (Am k) ch (stK (Am k) ch kd v row) dz aw (r + 1) t w bf h d))) 41 5 = nI K := by simp (disch := omega) only [gI_ss, gI_sk, gI_sc]; exact p7
        refine ⟨sI (sI σ9 44 (ixM t p w h d) (nI (mMe (Am k) ch (stK (Am k) ch kd v row) dz aw (r + 1) t w bf h d))) 45 (ixM t p w h d) (nI K), ?_, ?_, ?_⟩
        · rw [lt_eq, lt_eq, l9, gI_sc _ _ _ _ (by omega), gI_ss]
        · refine cFm_trans g2 ⟨fun c _ hc => by rw [gIr _ _ _ (by omega), gIr _ _ _ (by omega)], fun j hj => ⟨?_, fun i _ _ => ?_⟩⟩
          · rw [gIr _ _ _ (by unfold mo; omega), gIr _ _ _ (by unfold mo; omega)]
          · rw [gIr _ _ _ (by unfold mo; omega), gIr _ _ _ (by unfold mo; omega)]
        · have hfm : cFm M σ9 (sI (sI σ9 44 (ixM t p w h d) (nI (mMe (Am k) ch (stK (Am k) ch kd v row) dz aw (r + 1) t w bf h d))) 45 (ixM t p w h d) (nI K)) := ⟨fun c _ hc => by rw [gIr _ _ _ (by omega), gIr _ _ _ (by omega)], fun j hj => ⟨by rw [gIr _ _ _ (by unfold mo; omega), gIr _ _ _ (by unfold mo; omega)], fun i _ _ => by rw [gIr _ _ _ (by unfold mo; omega), gIr _ _ _ (by unfold mo; omega)]⟩⟩
          obtain ⟨i1, i5, i6, i7, i8, i9, i10, i11, i12⟩ := p1
          refine ⟨⟨i1, fun j hj => cM_c (i5 j hj) (fun x _ _ => by rw [(hfm.2 j hj).1]) (hfm.2 j hj).2, fun j hj => ?_, by simp (disch := omega) only [gI_ss, gI_sk, gI_sc]; exact i7, by simp (disch := omega) only [gI_ss, gI_sk, gI_sc]; exact i8, by simp (disch := omega) only [gI_ss, gI_sk, gI_sc]; exact i9, ?_, fun w i a b => by simp (disch := omega) only [gI_ss, gI_sk, gI_sc]; exact i11 w i a b, fun i hi => by simp (disch := omega) only [gI_ss, gI_sk, gI_sc]; exact i12 i hi⟩, cSt_fm p2 hfm, p3, by simp (disch := omega) only [gI_ss, gI_sk, gI_sc]; exact p4, by simp (disch := omega) only [gI_ss, gI_sk, gI_sc]; exact p5, by simp (disch := omega) only [gI_ss, gI_sk, gI_sc]; exact p6, by simp (disch := omega) only [gI_ss, gI_sk, gI_sc]; exact p7, ?_, ?_⟩
          · intro w st h d a b c e
            rw [gI_sc _ _ _ _ (by unfold mo; omega), gI_sc _ _ _ _ (by unfold mo; omega)]
            exact i6 j hj w st h d a b c e
          · intro n' w' h' d' a1 a2 a3 a4 a5 a6
            rw [gI_sc _ _ _ _ (by omega), gI_sc _ _ _ _ (by omega)] at a6
            rw [gI_sc _ _ _ _ (by omega), gI_sc _ _ _ _ (by omega)]
            exact i10 n' w' h' d' a1 a2 a3 a4 a5 a6
          · intro t' p' w' h' d' a1 a2 a3 a4 a5 a6
            by_cases e : ixM t' p' w' h' d' = ixM t p w h d
            · obtain ⟨rfl, rfl, rfl, rfl, rfl⟩ := ixM_inj e hp hw hh hd a2 a3 a4 a5
              rw [gI_sc _ _ _ _ (by omega), gI_ss, show n - t' = r + 1 by omega, hpm]
            · rw [gI_sk _ _ _ e, gI_sc _ _ _ _ (by omega)] at a6
              rw [gI_sc _ _ _ _ (by omega), gI_sk _ _ _ e]
              exact p8 t' p' w' h' d' a1 a2 a3 a4 a5 a6
          · intro i hi
            by_cases e : i = ixM t p w h d
            · subst e
              rw [gI_ss]
              exact ⟨K, Nat.le_refl _, rfl⟩
            · rw [gI_sk _ _ _ e, gI_sc _ _ _ _ (by omega)]
              exact p9 i hi
    show ∃ τ', f_X5_meanFrom_F (fx6 f_X5_meanFrom_F fu) _ _ _ _ _ _ = _ ∧ _
    unfold f_X5_meanFrom_F
    rw [q2.2.2.2.1]
    by_cases q : kd = 2
    · rw [if_pos (by rw [q]; rfl)]
      exact main bf hb (fun _ _ _ _ _ => rfl)
    · have hkd := q2.1
      rw [if_neg (show ¬ nI kd = (2 : Int32) from fun z => q (nI_inj (b := 2) (by omega) (by omega) z))]
      exact main 0 (by omega) (fun r' t' w' h' d' => mMe_bf (fun t l w bf bf' y d => stK_bf (Am k) ch q t l w bf bf' y d) r' t' w' 0 bf h' d')
end MEAN
section MEAN2
variable {M : Nat} {Am : Nat → Mil} {k J : Nat} {ch : Nat → Nat → Nat} {kd v : Nat} {row : Nat → Nat}
/-- what a mean leaves: the planner's fields but for its own -/
def cFp (M : Nat) (σ σ' : Mem) : Prop := (∀ c, c < 48 → (c < 41 ∨ 45 < c) → gI σ' c = gI σ c) ∧ (∀ j, j < M → gI σ' (mo j) = gI σ (mo j) ∧ ∀ i, 1 ≤ i → i ≤ 4 → gI σ' (mo j + i) = gI σ (mo j + i)) ∧ ∀ j, j ≠ 5 → j ≠ 12 → j ≠ 13 → j ≠ 14 → gI σ' 41 j = gI σ 41 j
theorem c_mean_ {aw : Bool} {p3 dz : Int32} (hp3 : p3 = bI aw) {σ : Mem} (hQ : cI0 M Am k J ch σ) (hS : cSt kd v row σ) {n w h d K : Nat} (hn0 : 0 < n) (hn : n ≤ 6) (hw : w < 6) (hh : h < 10) (hd : d < 10) (hK : K < 5000) (h5 : gI σ 41 5 = nI K) (h45 : ∀ i, i < 21600 → le_ (gI σ 45 i) K) :
    ∃ σ', (bv (f_X5_startMean (nI n) dz p3 σ) fun σ_2 => bd (f_X5_meanFrom (0 : Int32) (nI w) (nI w) (nI h) (nI d) σ_2) fun r_4 σ_5 => some (r_4, σ_5)) = some (nI (mMe (Am k) ch (stK (Am k) ch kd v row) dz aw n 0 w w h d), σ') ∧ cFp M σ σ' ∧ cI0 M Am k J ch σ' ∧ cSt kd v row σ' ∧ gI σ' 41 5 = nI (K + 1) ∧ ∀ i, i < 21600 → le_ (gI σ' 45 i) (K + 1) := by
  subst hp3
  obtain ⟨τ, hτ⟩ : ∃ τ, τ = sI (sI (sI (sI σ 41 12 (nI n)) 41 13 dz) 41 14 (bI aw)) 41 5 (nI (K + 1)) := ⟨_, rfl⟩
  have e1 : f_X5_startMean (nI n) dz (bI aw) σ = some τ := by
    unfold f_X5_startMean
    rw [hτ]
    have : gI (sI (sI (sI σ 41 12 (nI n)) 41 13 dz) 41 14 (bI aw)) 41 5 = nI K := by simp (disch := omega) only [gI_ss, gI_sk, gI_sc]; exact h5
    simp only [bd_some, bv_some, lt_eq, ↓reduceIte, bI_iz, gd_true, this, nI_1]
  have hfp : cFp M σ τ := by
    rw [hτ]
    refine ⟨fun c _ hc => by simp (disch := omega) only [gIr, gIrL], fun j hj => ⟨?_, fun i _ _ => ?_⟩, fun j a1 a2 a3 a4 => by simp (disch := omega) only [gI_ss, gI_sk, gI_sc]⟩
    · rw [gIr _ _ _ (by unfold mo; omega), gIr _ _ _ (by unfold mo; omega), gIr _ _ _ (by unfold mo; omega), gIr _ _ _ (by unfold mo; omega)]
    · rw [gIr _ _ _ (by unfold mo; omega), gIr _ _ _ (by unfold mo; omega), gIr _ _ _ (by unfold mo; omega), gIr _ _ _ (by unfold mo; omega)]
  have r42 : ∀ c, c ≠ 41 → gI τ c = gI σ c := fun c hc => by rw [hτ]; simp (disch := omega) only [gIr, gIrL]
  have hQt : cI0 M Am k J ch τ := by
    obtain ⟨i1, i5, i6, i7, i8, i9, i10, i11, i12⟩ := hQ
    refine ⟨i1, fun j hj => cM_c (i5 j hj) (fun x _ _ => by rw [(hfp.2.1 j hj).1]) (hfp.2.1 j hj).2, fun j hj => ?_, by rw [hfp.2.2 6 (by omega) (by omega) (by omega) (by omega)]; exact i7, by rw [hfp.2.2 7 (by omega) (by omega) (by omega) (by omega)]; exact i8, by rw [hfp.2.2 4 (by omega) (by omega) (by omega) (by omega)]; exact i9, ?_, fun w i a b => by rw [r42 6 (by omega)]; exact i11 w i a b, fun i hi => by rw [r42 43 (by omega)]; exact i12 i hi⟩
    · intro w st h d a b c e
      rw [r42 _ (by unfold mo; omega)]
      exact i6 j hj w st h d a b c e
    · intro n' w' h' d' a1 a2 a3 a4 a5 a6
      rw [r42 43 (by omega)] at a6
      rw [r42 42 (by omega)]
      exact i10 n' w' h' d' a1 a2 a3 a4 a5 a6
  have hSt : cSt kd v row τ := by
    obtain ⟨h1, h2, h3, h4, h5, h6⟩ := hS
    refine ⟨h1, h2, h3, by rw [hfp.2.2 10 (by omega) (by omega) (by omega) (by omega)]; exact h4, by rw [hfp.2.2 11 (by omega) (by omega) (by omega) (by omega)]; exact h5, fun q => ?_⟩
    obtain ⟨g1, ru, g2, g3⟩ := h6 q
    exact ⟨by rw [hfp.2.2 8 (by omega) (by omega) (by omega) (by omega)]; exact g1, ru, by rw [hfp.2.2 9 (by omega) (by omega) (by omega) (by omega)]; exact g2, fun υ hυ t ht => g3 υ (fun c h8 hc => (hυ c h8 hc).trans (r42 c (by omega))) t ht⟩
  have hI1 : cI1 M Am k J ch kd v row dz aw n (K + 1) τ := by
    refine ⟨hQt, hSt, hn, by rw [hτ]; simp (disch := omega) only [gI_ss, gI_sk, gI_sc], by rw [hτ]; simp (disch := omega) only [gI_ss, gI_sk, gI_sc], by rw [hτ]; simp (disch := omega) only [gI_ss, gI_sk, gI_sc], by rw [hτ]; simp (disch := omega) only [gI_ss, gI_sk, gI_sc], ?_, fun i hi => by rw [r42 45 (by omega)]; exact le_mono (h45 i hi) (by omega)⟩
    intro t p w h d a1 a2 a3 a4 a5 a6
    exfalso
    rw [r42 45 (by omega)] at a6
    obtain ⟨j, hj, ej⟩ := h45 (ixM t p w h d) (ixM_lt (by omega) a2 a3 a4 a5)
    rw [ej] at a6
    have := nI_inj (by omega) (by omega) a6
    omega
  obtain ⟨σ', u1, u2, u3⟩ := c_meanFromN n 16 (by omega) τ 0 w w h d hI1 (by omega) hw hw hh hd
  have u1 : f_X5_meanFrom (0 : Int32) (nI w) (nI w) (nI h) (nI d) τ = some (nI (mMe (Am k) ch (stK (Am k) ch kd v row) dz aw n 0 w w h d), σ') := u1
  refine ⟨σ', by rw [e1, bv_some, u1, bd_some], ⟨fun c hc h2 => (u2.1 c hc (by omega)).trans (hfp.1 c hc h2), fun j hj => ⟨(u2.2 j hj).1.trans (hfp.2.1 j hj).1, fun i a b => ((u2.2 j hj).2 i a b).trans ((hfp.2.1 j hj).2 i a b)⟩, fun j a1 a2 a3 a4 => by rw [u2.1 41 (by omega) (by omega)]; exact hfp.2.2 j a1 a2 a3 a4⟩, u3.1, u3.2.1, u3.2.2.2.2.2.2.1, u3.2.2.2.2.2.2.2.2⟩
end MEAN2
