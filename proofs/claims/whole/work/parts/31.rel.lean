/-! THE RELATION of the two sides: parts of the state (rows of the class, the row of the model) -/
/-- a number, at most -/
def le_ (x : Int32) (b : Nat) : Prop := ∃ n, n ≤ b ∧ x = nI n
/-- THE TAPE: the Tape's fields, its bytes -/
def sTape (tp by_ s : Nat → Int32) : Prop := tp 1 = s 4 ∧ (∃ t, t ≤ 120 ∧ s 4 = nI t ∧ ∀ j, j < t → by_ j &&& 255 = s (11 + j) ∧ le_ (s (11 + j)) 255) ∧ ∀ j, j < 120 → (by_ j).toInt8.toInt32 = by_ j
/-- WIND: chances -/
def sWinds (ch s : Nat → Int32) : Prop := ∀ w, w < 6 → ∃ c : Nat → Nat, (∀ i, i < 6 → ch (6 * w + i) = nI (c i) ∧ s (851 + 6 * w + i) = nI (c i)) ∧ c 0 + c 1 + c 2 + c 3 + c 4 + c 5 = 1000
/-- the mill that is led: the fields, and how many mills there are -/
def sLed (ld s : Nat → Int32) (M : Nat) : Prop := (∀ i, i < 6 → ld i = s (5 + i)) ∧ (s 5 = -1 ∨ ∃ k, k < M ∧ s 5 = nI k) ∧ le_ (s 6) 999 ∧ le_ (s 7) 9 ∧ le_ (s 8) 9 ∧ le_ (s 10) 1
/-- RULES: the fields, kinds, values, sizes of rows, rows -/
def sRules (rl kd vl rz rw_ s : Nat → Int32) : Prop := rl 4 = s 1 ∧ ∃ R, R ≤ 10 ∧ s 1 = nI R ∧ ∀ i, i < R → kd i = s (887 + i) ∧ vl i = s (897 + i) ∧ rz i = s (907 + i) ∧ le_ (s (887 + i)) 6 ∧ le_ (s (897 + i)) 7 ∧
  ∃ z, z ≤ 10 ∧ s (907 + i) = nI z ∧ ∀ j, j < z → rw_ (10 * i + j) = s (917 + 10 * i + j) ∧ le_ (s (917 + 10 * i + j)) 7
/-- THE DAY: the fields, winds, settings -/
def sDay (dy dw ds s : Nat → Int32) : Prop := dy 2 = s 2 ∧ ∃ D, D ≤ 10 ∧ s 2 = nI D ∧ ∀ i, i < D → dw i = s (1017 + i) ∧ ds i = s (1027 + i) ∧ le_ (s (1017 + i)) 5 ∧ le_ (s (1027 + i)) 7
/-- ORDERS: the fields, hours, dues, prices, turns: by due, of like ones by number -/
def sOrders (od oh du pr tu s : Nat → Int32) : Prop := od 4 = s 3 ∧ ∃ O, O ≤ 6 ∧ s 3 = nI O ∧ ∃ h d q : Nat → Nat, (∀ i, i < O → oh i = nI (h i) ∧ s (1037 + i) = nI (h i) ∧ du i = nI (d i) ∧ s (1043 + i) = nI (d i) ∧ pr i = nI (q i) ∧ s (1049 + i) = nI (q i) ∧ 1 ≤ h i ∧ h i ≤ 20 ∧ 1 ≤ d i ∧ d i ≤ 99 ∧ q i ≤ 99) ∧
  ∃ t : Nat → Nat, (∀ i, i < O → tu i = nI (t i) ∧ t i < O) ∧ (∀ i j, i < j → j < O → d (t i) < d (t j) ∨ (d (t i) = d (t j) ∧ t i < t j)) ∧ ∀ o, o < O → ∃ i, i < O ∧ t i = o
/-! A MILL: how much its clauses of a word give together, by the signs w c s h d f -/
def nm6 (r : Nat → Int32) : Nat → Int32 := fun j => if j < 6 then r j else 0
/-- the class's mill at cell o gives S -/
def cGives (a : Nat → Nat → Int32) (o : Nat) (S : Nat → (Nat → Int32) → Nat) : Prop := ∀ τ : Mem, (∀ k, 6 ≤ k → k ≤ 7 → gI τ o k = a o k) → (∀ i, 1 ≤ i → i ≤ 4 → gI τ (o + i) = a (o + i)) → ∀ kd, kd < 4 → f_X3_together o (nI kd) τ = some (nI (S kd (nm6 (gI τ (o + 5)))), τ)
/-- the model's mill k in the row s gives S -/
def mGives (s : Nat → Int32) (k : Nat) (S : Nat → (Nat → Int32) → Nat) : Prop := ∀ τ : Mem, gI τ 1 (146 + k) = s (146 + k) → (∀ j, j < 140 → gI τ 1 (151 + 140 * k + j) = s (151 + 140 * k + j)) → ∀ kd, kd < 4 → ∃ τ', f_X12_together (nI k) (nI kd) τ = some (nI (S kd (nm6 (gI τ 3))), τ') ∧ (∀ c, c ≠ 4 → τ'.1 c = τ.1 c) ∧ τ'.2 = τ.2
/-- a mill in numbers: S, cool, edge, burn -/
abbrev Mil : Type := (Nat → (Nat → Int32) → Nat) × Nat × Nat × Nat
def sMill (a : Nat → Nat → Int32) (s : Nat → Int32) (k : Nat) (A : Mil) : Prop := (∀ kd sg, A.1 kd sg ≤ 990) ∧ A.2.1 ≤ 99 ∧ A.2.2.1 ≤ 99 ∧ A.2.2.2 ≤ 99 ∧
  a (mo k) 8 = nI A.2.1 ∧ a (mo k) 9 = nI A.2.2.1 ∧ a (mo k) 10 = nI A.2.2.2 ∧ s (131 + k) = nI A.2.1 ∧ s (136 + k) = nI A.2.2.1 ∧ s (141 + k) = nI A.2.2.2 ∧ cGives a (mo k) A.1 ∧ mGives s k A.1
/-- the signs of an hour -/
def sgn (w st h d f : Nat) : Nat → Int32 := fun j => if j = 0 then nI w else if j = 1 then nI (st / 2) else if j = 2 then nI (st % 2) else if j = 3 then nI h else if j = 4 then nI d else if j = 5 then nI f else 0
/-- AN HOUR in numbers -/
def hF (A : Mil) (w st h d : Nat) : Nat := min 99 (A.1 0 (sgn w st h d 0))
def hG (A : Mil) (kd w st h d : Nat) : Nat := A.1 kd (sgn w st h d (hF A w st h d))
def hAw (A : Mil) (w st h d : Nat) : Bool := decide (A.2.2.1 < hF A w st h d)
def hBu (A : Mil) (w st h d : Nat) : Bool := !hAw A w st h d && decide (A.2.2.2 ≤ h)
/-- the meal that counts -/
def hMe (A : Mil) (w st h d : Nat) : Nat := if hAw A w st h d = true ∨ hBu A w st h d = true then 0 else hG A 1 w st h d
def hHe (A : Mil) (w st h d : Nat) : Nat := if hAw A w st h d = true then h else min 9 (h + hG A 2 w st h d - A.2.1)
def hDu (A : Mil) (w st h d : Nat) : Nat := if hAw A w st h d = true then d else min 9 (d + hG A 3 w st h d)
/-- the class's int of an hour -/
def hI (A : Mil) (w st h d : Nat) : Nat := 2 ^ 27 + (if hAw A w st h d = true then 2 ^ 26 else 0) + (if hBu A w st h d = true then 2 ^ 25 else 0) + 2 ^ 21 * hDu A w st h d + 2 ^ 17 * hHe A w st h d + 2 ^ 7 * hMe A w st h d + hF A w st h d
/-- the place of an hour in the tables -/
def hP (w st h d : Nat) : Nat := ((w * 8 + st) * 10 + h) * 10 + d
/-- the class's table of a mill holds hours alone -/
def cHours (a : Nat → Nat → Int32) (k : Nat) (A : Mil) : Prop := ∀ w st h d, w < 6 → st < 8 → h < 10 → d < 10 → a (mo k + 6) (hP w st h d) = 0 ∨ a (mo k + 6) (hP w st h d) = nI (hI A w st h d)
/-- the mills of a state: M of them -/
def sMills (a : Nat → Nat → Int32) (s : Nat → Int32) (M : Nat) : Prop := ∀ k, k < M → ∃ A : Mil, sMill a s k A ∧ cHours a k A
/-- THE STATE: the class's from the cell B on, the model's in the row s -/
def sAll (a : Nat → Nat → Int32) (B : Nat) (s : Nat → Int32) : Prop := ∃ M, M ≤ 5 ∧ a B 0 = nI M ∧ s 0 = nI M ∧ sTape (a (B + 1)) (a (B + 2)) s ∧ sWinds (a (B + 4)) s ∧ sLed (a (B + 5)) s M ∧ sRules (a (B + 6)) (a (B + 7)) (a (B + 8)) (a (B + 9)) (a (B + 10)) s ∧
  sDay (a (B + 11)) (a (B + 12)) (a (B + 13)) s ∧ sOrders (a (B + 14)) (a (B + 15)) (a (B + 16)) (a (B + 17)) (a (B + 18)) s ∧ sMills a s M
