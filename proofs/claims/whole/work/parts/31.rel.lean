/-! THE RELATION of the two sides: parts of the state (rows of the class, the row of the model) -/
/-- a number, at most -/
def le_ (x : Int32) (b : Nat) : Prop := ∃ n, n ≤ b ∧ x = nI n
/-- THE TAPE: the Tape's fields, its bytes -/
def sTape (tp by_ s : Nat → Int32) : Prop := tp 1 = s 4 ∧ (∃ t, t ≤ 120 ∧ s 4 = nI t ∧ ∀ j, j < t → by_ j &&& 255 = s (11 + j) ∧ le_ (s (11 + j)) 255) ∧ ∀ j, j < 120 → (by_ j).toInt8.toInt32 = by_ j
/-- WIND: chances -/
def sWinds (ch s : Nat → Int32) : Prop := ∀ w, w < 6 → ∃ c : Nat → Nat, (∀ i, i < 6 → ch (6 * w + i) = nI (c i) ∧ s (851 + 6 * w + i) = nI (c i)) ∧ c 0 + c 1 + c 2 + c 3 + c 4 + c 5 = 1000
/-- the mill that is led: the fields, and how many mills there are -/
def sLed (ld s : Nat → Int32) (M : Nat) : Prop := (∀ i, i < 6 → ld i = s (5 + i)) ∧ (s 5 = -1 ∨ ∃ k, k < M ∧ s 5 = nI k) ∧ le_ (s 6) 999 ∧ le_ (s 7) 9 ∧ le_ (s 8) 9 ∧ le_ (s 10) 1
/-- RULES: the fields, kinds, values, sizes of rows, rows -/
def sRules (rl kd vl rz rw_ s : Nat → Int32) : Prop := rl 4 = s 1 ∧ ∃ R, R ≤ 10 ∧ s 1 = nI R ∧ ∀ i, i < R → kd i = s (887 + i) ∧ vl i = s (897 + i) ∧ rz i = s (907 + i) ∧ le_ (s (887 + i)) 6 ∧ le_ (s (897 + i)) 7 ∧
  ∃ z, z ≤ 10 ∧ s (907 + i) = nI z ∧ ∀ j, j < z → rw_ (10 * i + j) = s (917 + 10 * i + j) ∧ le_ (s (917 + 10 * i + j)) 7
/-- THE DAY: the fields, winds, settings -/
def sDay (dy dw ds s : Nat → Int32) : Prop := dy 2 = s 2 ∧ ∃ D, D ≤ 10 ∧ s 2 = nI D ∧ ∀ i, i < D → dw i = s (1017 + i) ∧ ds i = s (1027 + i) ∧ le_ (s (1017 + i)) 5 ∧ le_ (s (1027 + i)) 7
/-- ORDERS: the fields, hours, dues, prices, turns: by due, of like ones by number -/
def sOrders (od oh du pr tu s : Nat → Int32) : Prop := od 4 = s 3 ∧ ∃ O, O ≤ 6 ∧ s 3 = nI O ∧ ∃ h d q : Nat → Nat, (∀ i, i < O → oh i = nI (h i) ∧ s (1037 + i) = nI (h i) ∧ du i = nI (d i) ∧ s (1043 + i) = nI (d i) ∧ pr i = nI (q i) ∧ s (1049 + i) = nI (q i) ∧ 1 ≤ h i ∧ h i ≤ 20 ∧ 1 ≤ d i ∧ d i ≤ 99 ∧ q i ≤ 99) ∧
  ∃ t : Nat → Nat, (∀ i, i < O → tu i = nI (t i) ∧ t i < O) ∧ (∀ i j, i < j → j < O → d (t i) < d (t j) ∨ (d (t i) = d (t j) ∧ t i < t j)) ∧ ∀ o, o < O → ∃ i, i < O ∧ t i = o
/-! A MILL: how much its clauses of a word give together, by the signs w c s h d f -/
def nm6 (r : Nat → Int32) : Nat → Int32 := fun j => if j < 6 then r j else 0
/-- the class's mill at cell o gives S -/
def cGives (a : Nat → Nat → Int32) (o : Nat) (S : Nat → (Nat → Int32) → Nat) : Prop := ∀ τ : Mem, (∀ k, 6 ≤ k → k ≤ 7 → gI τ o k = a o k) → (∀ i, 1 ≤ i → i ≤ 4 → gI τ (o + i) = a (o + i)) → ∀ kd, kd < 4 → f_X3_together o (nI kd) τ = some (nI (S kd (nm6 (gI τ (o + 5)))), τ)
/-- the model's mill k in the row s gives S -/
def mGives (s : Nat → Int32) (k : Nat) (S : Nat → (Nat → Int32) → Nat) : Prop := ∀ τ : Mem, gI τ 1 (146 + k) = s (146 + k) → (∀ j, j < 140 → gI τ 1 (151 + 140 * k + j) = s (151 + 140 * k + j)) → ∀ kd, kd < 4 → ∃ τ', f_X12_together (nI k) (nI kd) τ = some (nI (S kd (nm6 (gI τ 3))), τ') ∧ (∀ c, c ≠ 4 → τ'.1 c = τ.1 c) ∧ τ'.2 = τ.2
/-- a mill in numbers: S, cool, edge, burn -/
abbrev Mil : Type := (Nat → (Nat → Int32) → Nat) × Nat × Nat × Nat
def sMill (a : Nat → Nat → Int32) (s : Nat → Int32) (k : Nat) (A : Mil) : Prop := (∀ kd sg, A.1 kd sg ≤ 990) ∧ A.2.1 ≤ 99 ∧ A.2.2.1 ≤ 99 ∧ A.2.2.2 ≤ 99 ∧
  a (mo k) 8 = nI A.2.1 ∧ a (mo k) 9 = nI A.2.2.1 ∧ a (mo k) 10 = nI A.2.2.2 ∧ s (131 + k) = nI A.2.1 ∧ s (136 + k) = nI A.2.2.1 ∧ s (141 + k) = nI A.2.2.2 ∧ cGives a (mo k) A.1 ∧ mGives s k A.1
/-- the signs of an hour -/
def sgn (w st h d f : Nat) : Nat → Int32 := fun j => if j = 0 then nI w else if j = 1 then nI (st / 2) else if j = 2 then nI (st % 2) else if j = 3 then nI h else if j = 4 then nI d else if j = 5 then nI f else 0
/-- AN HOUR in numbers -/
def hF (A : Mil) (w st h d : Nat) : Nat := min 99 (A.1 0 (sgn w st h d 0))
def hG (A : Mil) (kd w st h d : Nat) : Nat := A.1 kd (sgn w st h d (hF A w st h d))
def hAw (A : Mil) (w st h d : Nat) : Bool := decide (A.2.2.1 < hF A w st h d)
def hBu (A : Mil) (w st h d : Nat) : Bool := !hAw A w st h d && decide (A.2.2.2 ≤ h)
/-- the meal that counts -/
def hMe (A : Mil) (w st h d : Nat) : Nat := if hAw A w st h d = true ∨ hBu A w st h d = true then 0 else hG A 1 w st h d
def hHe (A : Mil) (w st h d : Nat) : Nat := if hAw A w st h d = true then h else min 9 (h + hG A 2 w st h d - A.2.1)
def hDu (A : Mil) (w st h d : Nat) : Nat := if hAw A w st h d = true then d else min 9 (d + hG A 3 w st h d)
/-- the class's int of an hour -/
def hI (A : Mil) (w st h d : Nat) : Nat := 2 ^ 27 + (if hAw A w st h d = true then 2 ^ 26 else 0) + (if hBu A w st h d = true then 2 ^ 25 else 0) + 2 ^ 21 * hDu A w st h d + 2 ^ 17 * hHe A w st h d + 2 ^ 7 * hMe A w st h d + hF A w st h d
/-- the place of an hour in the tables -/
def hP (w st h d : Nat) : Nat := ((w * 8 + st) * 10 + h) * 10 + d
/-- the class's table of a mill holds hours alone -/
def cHours (a : Nat → Nat → Int32) (k : Nat) (A : Mil) : Prop := ∀ w st h d, w < 6 → st < 8 → h < 10 → d < 10 → a (mo k + 6) (hP w st h d) = 0 ∨ a (mo k + 6) (hP w st h d) = nI (hI A w st h d)
/-- the mills of a state: M of them -/
def sMills (a : Nat → Nat → Int32) (s : Nat → Int32) (M : Nat) (Am : Nat → Mil) : Prop := ∀ k, k < M → sMill a s k (Am k)
/-- THE STATE: the class's from the cell B on, the model's in the row s, M mills -/
def sAll (a : Nat → Nat → Int32) (B : Nat) (s : Nat → Int32) (M : Nat) (Am : Nat → Mil) : Prop := M ≤ 5 ∧ a B 0 = nI M ∧ s 0 = nI M ∧ sTape (a (B + 1)) (a (B + 2)) s ∧ sWinds (a (B + 4)) s ∧ sLed (a (B + 5)) s M ∧ sRules (a (B + 6)) (a (B + 7)) (a (B + 8)) (a (B + 9)) (a (B + 10)) s ∧
  sDay (a (B + 11)) (a (B + 12)) (a (B + 13)) s ∧ sOrders (a (B + 14)) (a (B + 15)) (a (B + 16)) (a (B + 17)) (a (B + 18)) s ∧ sMills a s M Am
/-- sums over six, the greatest of eight and the least place of it -/
def sum6 (f : Nat → Nat) : Nat := f 0 + f 1 + f 2 + f 3 + f 4 + f 5
def mx8 (f : Nat → Nat) : Nat → Nat
  | 0 => 0
  | n + 1 => max (mx8 f n) (f n)
def am8 (f : Nat → Nat) : Nat → Nat
  | 0 => 0
  | n + 1 => if mx8 f n < f n then n else am8 f n
/-- a chance, as a number -/
def chN (s : Nat → Int32) (w i : Nat) : Nat := if w < 6 ∧ i < 6 then (s (851 + 6 * w + i)).toNatClampNeg else 0
/-- BEST: what a setting brings with n hours behind it, and what n hours bring -/
def bWo (A : Mil) (ch : Nat → Nat → Nat) (B : Nat → Nat → Nat → Nat) (w st h d : Nat) : Nat := if hAw A w st h d = true then 0 else 1000 * hMe A w st h d + sum6 (fun i => ch w i * B i (hHe A w st h d) (hDu A w st h d)) / 1000
def bBe (A : Mil) (ch : Nat → Nat → Nat) : Nat → Nat → Nat → Nat → Nat
  | 0 => fun _ _ _ => 0
  | n + 1 => fun w h d => mx8 (fun st => bWo A ch (bBe A ch n) w st h d) 8
/-- the setting of best for n + 1 hours -/
def bSt (A : Mil) (ch : Nat → Nat → Nat) (n w h d : Nat) : Nat := am8 (fun st => bWo A ch (bBe A ch n) w st h d) 8
/-- the class's table of best holds, where its stamp is the latest -/
def cBest (a : Nat → Nat → Int32) (J : Nat) (A : Mil) (ch : Nat → Nat → Nat) : Prop := ∀ n w h d, 1 ≤ n → n < 7 → w < 6 → h < 10 → d < 10 → a 43 (((n * 6 + w) * 10 + h) * 10 + d) = nI J → a 42 (((n * 6 + w) * 10 + h) * 10 + d) = nI (8 * bBe A ch n w h d + bSt A ch (n - 1) w h d)
/-- the planner of the class: stamps, and the table of best for the mill that is led -/
def rPl (a : Nat → Nat → Int32) (s : Nat → Int32) (M : Nat) (Am : Nat → Mil) (c : Nat) : Prop := ∃ J K, 1 ≤ J ∧ J ≤ 1 + c ∧ 1 ≤ K ∧ K ≤ 1 + 10 * c ∧ a 41 4 = nI J ∧ a 41 5 = nI K ∧ (∀ i, i < 4200 → le_ (a 43 i) J) ∧ (∀ i, i < 21600 → le_ (a 45 i) K) ∧ ∀ k, k < M → s 5 = nI k → cBest a J (Am k) (chN s)
/-- the model's stamps -/
def rMs (b : Nat → Nat → Int32) (c : Nat) : Prop := ∃ J K, J ≤ c ∧ K ≤ 10 * c ∧ b 0 25 = nI J ∧ b 0 26 = nI K ∧ (∀ i, i < 4800 → le_ (b 5 i) J) ∧ (∀ i, i < 4200 → le_ (b 10 i) J) ∧ ∀ i, i < 21600 → le_ (b 11 i) K
/-- the trace -/
def rAc (a b : Nat → Nat → Int32) : Prop := ∃ r, r ≤ 1000 ∧ a 46 1 = nI r ∧ b 0 35 = nI r ∧ ∀ i, i < r → i < 20 → a 47 i = b 15 i
/-- THE RELATION, with n calls left -/
def Rel (n : Nat) (σ μ : Mem) : Prop := n ≤ 64 ∧ ∃ (Am : Nat → Mil) (M : Nat), sAll (gI σ) 2 (gI μ 1) M Am ∧ (∀ k, k < M → cHours (gI σ) k (Am k)) ∧
  ((gI σ 0 6 = 0 ∧ gI μ 0 3 = 0) ∨ (gI σ 0 6 = 1 ∧ gI μ 0 3 = 1 ∧ ∃ Mi, Mi ≤ M ∧ sAll (gI σ) 21 (gI μ 2) Mi Am)) ∧
  rPl (gI σ) (gI μ 1) M Am (64 - n) ∧ rMs (gI μ) (64 - n) ∧ rAc (gI σ) (gI μ)
theorem le_mono {x : Int32} {a b : Nat} (h : le_ x a) (hab : a ≤ b) : le_ x b := by
  obtain ⟨n, h1, h2⟩ := h
  exact ⟨n, by omega, h2⟩
theorem rel_idle : ∀ (n : Nat) (σ μ : Mem), Rel (n + 1) σ μ → Rel n σ μ := by
  rintro n σ μ ⟨hn, Am, M, h1, h2, h3, ⟨J, K, p1, p2, p3, p4, p5⟩, ⟨J', K', q1, q2, q3⟩, h6⟩
  exact ⟨by omega, Am, M, h1, h2, h3, ⟨J, K, p1, by omega, p3, by omega, p5⟩, ⟨J', K', by omega, by omega, q3⟩, h6⟩
