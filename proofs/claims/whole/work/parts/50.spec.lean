/-! THE PLANNER in numbers -/
theorem lNdiv {a b : Nat} (ha : a < 2 ^ 63) (hb : b < 2 ^ 63) : lN a / lN b = lN (a / b) := (Int64.ofNat_div ha hb).symm
theorem lg_le {a b : Nat} (ha : a < 2 ^ 31) (hb : b < 2 ^ 31) : (lg_cmp (lN a) (lN b) ≤ 0) = (a ≤ b) := by
  unfold lg_cmp
  apply propext
  by_cases q : b < a
  · have h1 : lN a > lN b := (lN_lt hb ha).mpr q
    rw [if_pos h1]
    exact ⟨fun h => absurd h (by decide), fun h => by omega⟩
  · have h1 : ¬ lN a > lN b := fun h => q ((lN_lt hb ha).mp h)
    rw [if_neg h1]
    refine ⟨fun _ => by omega, fun _ => ?_⟩
    split <;> decide
/-- of those that may be, the one with the greatest: the first of several -/
def gF (ok : Nat → Bool) (m : Nat → Nat) : Nat → Option Nat
  | 0 => none
  | n + 1 => match gF ok m n with
    | none => if ok n = true then some n else none
    | some b => if ok n = true ∧ m b < m n then some n else some b
def oD (x : Option Nat) : Nat := x.getD 0
theorem gF_nn {ok : Nat → Bool} {m : Nat → Nat} {n : Nat} (h : gF ok m n = none) (q : ok n = false) : gF ok m (n + 1) = none := by
  show (match gF ok m n with | none => if ok n = true then some n else none | some b => if ok n = true ∧ m b < m n then some n else some b) = none
  rw [h]
  exact if_neg (by rw [q]; decide)
theorem gF_ns {ok : Nat → Bool} {m : Nat → Nat} {n : Nat} (h : gF ok m n = none) (q : ok n = true) : gF ok m (n + 1) = some n := by
  show (match gF ok m n with | none => if ok n = true then some n else none | some b => if ok n = true ∧ m b < m n then some n else some b) = some n
  rw [h]
  exact if_pos q
theorem gF_so {ok : Nat → Bool} {m : Nat → Nat} {n b : Nat} (h : gF ok m n = some b) (q : ¬ (ok n = true ∧ m b < m n)) : gF ok m (n + 1) = some b := by
  show (match gF ok m n with | none => if ok n = true then some n else none | some b => if ok n = true ∧ m b < m n then some n else some b) = some b
  rw [h]
  exact if_neg q
theorem gF_sn {ok : Nat → Bool} {m : Nat → Nat} {n b : Nat} (h : gF ok m n = some b) (q : ok n = true) (q2 : m b < m n) : gF ok m (n + 1) = some n := by
  show (match gF ok m n with | none => if ok n = true then some n else none | some b => if ok n = true ∧ m b < m n then some n else some b) = some n
  rw [h]
  exact if_pos ⟨q, q2⟩
theorem gF_lt (ok : Nat → Bool) (m : Nat → Nat) : ∀ (n b : Nat), gF ok m n = some b → b < n
  | n + 1, b, h => by
    cases e : gF ok m n with
    | none =>
      by_cases q : ok n = true
      · rw [gF_ns e q] at h
        have := Option.some.inj h
        omega
      · rw [gF_nn e (Bool.eq_false_iff.mpr q)] at h
        cases h
    | some c =>
      have hc := gF_lt ok m n c e
      by_cases q : ok n = true ∧ m c < m n
      · rw [gF_sn e q.1 q.2] at h
        have := Option.some.inj h
        omega
      · rw [gF_so e q] at h
        have := Option.some.inj h
        omega
theorem oD_lt (ok : Nat → Bool) (m : Nat → Nat) {n : Nat} (hn : 0 < n) : oD (gF ok m n) < n := by
  cases e : gF ok m n with
  | none => exact hn
  | some b => exact gF_lt ok m n b e
theorem gF_all (m : Nat → Nat) : ∀ n : Nat, gF (fun _ => true) m (n + 1) = some (am8 m (n + 1)) ∧ m (am8 m (n + 1)) = mx8 m (n + 1)
  | 0 => by
    have e : am8 m 1 = 0 := by
      show (if mx8 m 0 < m 0 then 0 else am8 m 0) = 0
      split <;> rfl
    rw [e]
    exact ⟨gF_ns rfl rfl, (Nat.zero_max (m 0)).symm⟩
  | n + 1 => by
    obtain ⟨h1, h2⟩ := gF_all m n
    have e : am8 m (n + 2) = if mx8 m (n + 1) < m (n + 1) then n + 1 else am8 m (n + 1) := rfl
    have e2 : mx8 m (n + 2) = max (mx8 m (n + 1)) (m (n + 1)) := rfl
    by_cases q : mx8 m (n + 1) < m (n + 1)
    · rw [if_pos q] at e
      rw [e, e2, Nat.max_eq_right (by omega)]
      exact ⟨gF_sn h1 rfl (by rw [h2]; exact q), rfl⟩
    · rw [if_neg q] at e
      rw [e, e2, Nat.max_eq_left (by omega)]
      exact ⟨gF_so h1 (by rw [h2]; exact fun z => q z.2), h2⟩
theorem am8_lt (m : Nat → Nat) : am8 m 8 < 8 := gF_lt _ _ _ _ (gF_all m 7).1
theorem mx8_le {f : Nat → Nat} {B : Nat} : ∀ {n : Nat}, (∀ i, i < n → f i ≤ B) → mx8 f n ≤ B
  | 0, _ => Nat.zero_le _
  | n + 1, h => by
    have h1 := mx8_le (n := n) (fun i hi => h i (by omega))
    have h2 := h n (by omega)
    show max (mx8 f n) (f n) ≤ B
    omega
theorem sum6_le {f g : Nat → Nat} {X : Nat} (h : ∀ i, i < 6 → g i ≤ X) : sum6 (fun i => f i * g i) ≤ sum6 f * X := by
  have a := fun i hi => Nat.mul_le_mul_left (f i) (h i hi)
  have h0 := a 0 (by omega)
  have h1 := a 1 (by omega)
  have h2 := a 2 (by omega)
  have h3 := a 3 (by omega)
  have h4 := a 4 (by omega)
  have h5 := a 5 (by omega)
  unfold sum6
  rw [Nat.add_mul, Nat.add_mul, Nat.add_mul, Nat.add_mul, Nat.add_mul]
  exact Nat.add_le_add (Nat.add_le_add (Nat.add_le_add (Nat.add_le_add (Nat.add_le_add h0 h1) h2) h3) h4) h5
theorem sumN_6 (f : Nat → Nat) : sumN f 6 = sum6 f := by
  show 0 + f 0 + f 1 + f 2 + f 3 + f 4 + f 5 = f 0 + f 1 + f 2 + f 3 + f 4 + f 5
  rw [Nat.zero_add]
theorem sumN_le6 (f : Nat → Nat) : ∀ d n : Nat, n + d = 6 → sumN f n ≤ sum6 f := by
  have up : ∀ n d : Nat, sumN f n ≤ sumN f (n + d) := by
    intro n d
    induction d with
    | zero => exact Nat.le_refl _
    | succ d ih => exact Nat.le_trans ih (Nat.le_add_right _ _)
  intro d n h
  rw [← sumN_6 f, ← h]
  exact up n d
/-- the chances of each wind: 1000 together -/
def chO (ch : Nat → Nat → Nat) : Prop := ∀ w, w < 6 → sum6 (ch w) = 1000
theorem chO_le {ch : Nat → Nat → Nat} (h : chO ch) {w i : Nat} (hw : w < 6) (hi : i < 6) : ch w i ≤ 1000 := by
  have e := h w hw
  unfold sum6 at e
  rcases (show i = 0 ∨ i = 1 ∨ i = 2 ∨ i = 3 ∨ i = 4 ∨ i = 5 by omega) with rfl | rfl | rfl | rfl | rfl | rfl <;> omega
theorem bh_le {ch : Nat → Nat → Nat} (h : chO ch) {w X : Nat} (hw : w < 6) {g : Nat → Nat} (hg : ∀ i, i < 6 → g i ≤ X) : sum6 (fun i => ch w i * g i) ≤ 1000 * X ∧ sum6 (fun i => ch w i * g i) / 1000 ≤ X := by
  have e := sum6_le (f := ch w) hg
  rw [h w hw] at e
  refine ⟨e, ?_⟩
  have := Nat.div_le_div_right (c := 1000) e
  rw [Nat.mul_div_cancel_left X (by omega)] at this
  exact this
theorem bWo_le {A : Mil} (b : ∀ kd sg, A.1 kd sg ≤ 990) {ch : Nat → Nat → Nat} (h : chO ch) {B : Nat → Nat → Nat → Nat} {X w st y d : Nat} (hw : w < 6) (hB : ∀ i h' d', i < 6 → B i h' d' ≤ X) : bWo A ch B w st y d ≤ 990000 + X := by
  unfold bWo
  split
  · omega
  · have h1 := hMe_le b w st y d
    have h2 := (bh_le h hw (g := fun i => B i (hHe A w st y d) (hDu A w st y d)) (fun i hi => hB i _ _ hi)).2
    omega
theorem bBe_le {A : Mil} (b : ∀ kd sg, A.1 kd sg ≤ 990) {ch : Nat → Nat → Nat} (h : chO ch) : ∀ (n w y d : Nat), w < 6 → bBe A ch n w y d ≤ n * 1000000
  | 0, _, _, _, _ => Nat.zero_le _
  | n + 1, w, y, d, hw => mx8_le (fun st _ => by
    have := bWo_le b h (B := bBe A ch n) (st := st) (y := y) (d := d) hw (fun i h' d' hi => bBe_le b h n i h' d' hi)
    show bWo A ch (bBe A ch n) w st y d ≤ (n + 1) * 1000000
    omega)
theorem bSt_lt (A : Mil) (ch : Nat → Nat → Nat) (n w h d : Nat) : bSt A ch n w h d < 8 := am8_lt _
/-- the mean of a rule: its settings told by sf, the hour of dressing dz; or how likely it runs away -/
def mMe (A : Mil) (ch : Nat → Nat → Nat) (sf : Nat → Nat → Nat → Nat → Nat → Nat → Nat) (dz : Int32) (aw : Bool) : Nat → Nat → Nat → Nat → Nat → Nat → Nat
  | 0 => fun _ _ _ _ _ => 0
  | r + 1 => fun t w bf h d =>
    if nI t = dz then sum6 (fun i => ch w i * mMe A ch sf dz aw r (t + 1) i w 0 0) / 1000
    else if hAw A w (sf t (r + 1) w bf h d) h d = true then (if aw = true then 1000000 else 0)
    else (if aw = true then 0 else 1000 * hMe A w (sf t (r + 1) w bf h d) h d) + sum6 (fun i => ch w i * mMe A ch sf dz aw r (t + 1) i w (hHe A w (sf t (r + 1) w bf h d) h d) (hDu A w (sf t (r + 1) w bf h d) h d)) / 1000
theorem mMe_le {A : Mil} (b : ∀ kd sg, A.1 kd sg ≤ 990) {ch : Nat → Nat → Nat} (h : chO ch) (sf : Nat → Nat → Nat → Nat → Nat → Nat → Nat) (dz : Int32) (aw : Bool) : ∀ (r t w bf y d : Nat), w < 6 → mMe A ch sf dz aw r t w bf y d ≤ r * 1000000
  | 0, _, _, _, _, _, _ => Nat.zero_le _
  | r + 1, t, w, bf, y, d, hw => by
    have g : ∀ y' d', sum6 (fun i => ch w i * mMe A ch sf dz aw r (t + 1) i w y' d') / 1000 ≤ r * 1000000 := fun y' d' => (bh_le h hw (g := fun i => mMe A ch sf dz aw r (t + 1) i w y' d') (fun i hi => mMe_le b h sf dz aw r (t + 1) i w y' d' hi)).2
    unfold mMe
    split
    · exact Nat.le_trans (g 0 0) (Nat.mul_le_mul_right _ (by omega))
    · split
      · split
        · rw [Nat.add_mul, Nat.one_mul]
          exact Nat.le_add_left _ _
        · exact Nat.zero_le _
      · have h1 := hMe_le b w (sf t (r + 1) w bf y d) y d
        have h2 := g (hHe A w (sf t (r + 1) w bf y d) y d) (hDu A w (sf t (r + 1) w bf y d) y d)
        have e : (r + 1) * 1000000 = 1000000 + r * 1000000 := by omega
        rw [e]
        refine Nat.add_le_add ?_ h2
        split
        · exact Nat.zero_le _
        · generalize hMe A w (sf t (r + 1) w bf y d) y d = z at h1
          omega
theorem mMe_bf {A : Mil} {ch : Nat → Nat → Nat} {sf : Nat → Nat → Nat → Nat → Nat → Nat → Nat} {dz : Int32} {aw : Bool} (h : ∀ t l w bf bf' y d, sf t l w bf y d = sf t l w bf' y d) (r t w bf bf' y d : Nat) : mMe A ch sf dz aw r t w bf y d = mMe A ch sf dz aw r t w bf' y d := by
  cases r with
  | zero => rfl
  | succ r =>
    unfold mMe
    rw [h t (r + 1) w bf bf' y d]
/-- the settings of the kinds -/
def okW (A : Mil) (sel : Nat → Bool) (w h d st : Nat) : Bool := sel st && (!hBu A w st h d && !hAw A w st h d)
def wSt (A : Mil) (sel : Nat → Bool) (w h d : Nat) : Nat := oD (gF (okW A sel w h d) (fun st => hMe A w st h d) 8)
def sfB (A : Mil) (h d st : Nat) : Nat → Bool
  | 0 => true
  | n + 1 => sfB A h d st n && !hAw A n st h d
def sSt (A : Mil) (ch : Nat → Nat → Nat) (v n w h d : Nat) : Nat := oD (gF (fun st => sfB A h d st (min (v + 1) 6)) (fun st => bWo A ch (bBe A ch n) w st h d) 8)
def stK (A : Mil) (ch : Nat → Nat → Nat) (kd v : Nat) (row : Nat → Nat) (t l w bf h d : Nat) : Nat :=
  if kd = 1 then v else if kd = 2 then wSt A (fun st => decide (st % 2 = v % 2)) bf h d else if kd = 3 then wSt A (fun _ => true) w h d
  else if kd = 4 then bSt A ch (min l 3 - 1) w h d else if kd = 5 then sSt A ch v (min l 3 - 1) w h d else if kd = 6 then row t else 0
theorem stK_lt (A : Mil) (ch : Nat → Nat → Nat) {kd v : Nat} (hv : v < 8) {row : Nat → Nat} (hr : ∀ t, row t < 8) (t l w bf h d : Nat) : stK A ch kd v row t l w bf h d < 8 := by
  unfold stK
  split
  · exact hv
  · split
    · exact oD_lt _ _ (by omega)
    · split
      · exact oD_lt _ _ (by omega)
      · split
        · exact bSt_lt _ _ _ _ _ _
        · split
          · exact oD_lt _ _ (by omega)
          · split
            · exact hr t
            · omega
theorem stK_bf (A : Mil) (ch : Nat → Nat → Nat) {kd v : Nat} {row : Nat → Nat} (hk : kd ≠ 2) (t l w bf bf' h d : Nat) : stK A ch kd v row t l w bf h d = stK A ch kd v row t l w bf' h d := by
  unfold stK
  rw [if_neg hk, if_neg hk]
