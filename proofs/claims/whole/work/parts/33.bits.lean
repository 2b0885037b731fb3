/-! BITS -/
theorem nIand (a b : Nat) : nI a &&& nI b = nI (a &&& b) := by
  apply Int32.toBitVec_inj.mp
  apply BitVec.eq_of_toNat_eq
  rw [Int32.toBitVec_and, BitVec.toNat_and]
  exact (Nat.and_mod_two_pow (a := a) (b := b) (n := 32)).symm
theorem nIor (a b : Nat) : nI a ||| nI b = nI (a ||| b) := by
  apply Int32.toBitVec_inj.mp
  apply BitVec.eq_of_toNat_eq
  rw [Int32.toBitVec_or, BitVec.toNat_or]
  exact (Nat.or_mod_two_pow (a := a) (b := b) (n := 32)).symm
theorem nIa31 {k : Nat} (hk : k < 32) : nI k &&& nI 31 = nI k := by
  rw [pk_andN (by omega) 5 (by decide), Nat.mod_eq_of_lt (by omega)]
theorem nIa1 {a : Nat} (ha : a < 2 ^ 32) : nI a &&& nI 1 = nI (a % 2) := pk_andN ha 1 (by decide)
theorem smod_ {k : Nat} (hk : k < 32) : ((nI k).toBitVec.smod 32).toNat = k := by
  have h : ∀ q : Fin 32, ((nI q.val).toBitVec.smod 32).toNat = q.val := by decide +kernel
  exact h ⟨k, hk⟩
theorem nIshr {a k : Nat} (ha : a < 2 ^ 31) (hk : k < 32) : nI a >>> nI k = nI (a / 2 ^ k) := pk_shrN ha _ k (smod_ hk)
theorem nIshl {a k : Nat} (h : a * 2 ^ k < 2 ^ 32) (hk : k < 32) : nI a <<< nI k = nI (a * 2 ^ k) := pk_shlN _ k (smod_ hk) h
theorem bit_ {x k : Nat} (hx : x < 2 ^ 31) (hk : k < 32) : (((nI x >>> (nI k &&& nI 31)) &&& nI 1) = nI 1) = (x.testBit k = true) := by
  have h2 : x / 2 ^ k ≤ x := Nat.div_le_self _ _
  rw [nIa31 hk, nIshr hx hk, nIa1 (by omega), nIeq (by omega) (by omega), Nat.testBit_eq_decide_div_mod_eq]
  simp only [decide_eq_true_eq]
theorem shl1_ {k : Nat} (hk : k < 31) : nI 1 <<< (nI k &&& nI 31) = nI (2 ^ k) := by
  rw [nIa31 (by omega), nIshl _ (by omega), Nat.one_mul]
  rw [Nat.one_mul]
  exact Nat.pow_lt_pow_right (by omega) (by omega)
theorem tb_up (m k j : Nat) : (m ||| 2 ^ k).testBit j = (m.testBit j || decide (k = j)) := by rw [Nat.testBit_or, Nat.testBit_two_pow]
/-! SUMS, MASKS -/
def sumN (f : Nat → Nat) : Nat → Nat
  | 0 => 0
  | n + 1 => sumN f n + f n
theorem sumN_eq {f g : Nat → Nat} : ∀ {n : Nat}, (∀ i, i < n → g i = f i) → sumN g n = sumN f n
  | 0, _ => rfl
  | n + 1, h => by
    show sumN g n + g n = sumN f n + f n
    rw [sumN_eq (fun i hi => h i (by omega)), h n (by omega)]
theorem sumN_up {f g : Nat → Nat} {p c : Nat} : ∀ {n : Nat}, p < n → f p = 0 → g p = c → (∀ i, i < n → i ≠ p → g i = f i) → sumN g n = sumN f n + c
  | 0, h, _, _, _ => by omega
  | n + 1, h, h0, h1, h2 => by
    show sumN g n + g n = sumN f n + f n + c
    by_cases hp : p = n
    · subst hp
      rw [sumN_eq (f := f) (g := g) (fun i hi => h2 i (by omega) (by omega)), h0, h1]
      omega
    · rw [sumN_up (f := f) (g := g) (by omega) h0 h1 (fun i hi => h2 i (by omega)), h2 n (by omega) (by omega)]
      omega
theorem sumN_le {f : Nat → Nat} {b : Nat} : ∀ {n : Nat}, (∀ i, i < n → f i ≤ b) → sumN f n ≤ n * b
  | 0, _ => by simp [sumN]
  | n + 1, h => by
    show sumN f n + f n ≤ (n + 1) * b
    have := sumN_le (n := n) (fun i hi => h i (by omega))
    have := h n (by omega)
    rw [Nat.add_mul]
    omega
theorem sumN_0 : ∀ n : Nat, sumN (fun _ => 0) n = 0
  | 0 => rfl
  | n + 1 => sumN_0 n
def maskN (f : Nat → Bool) : Nat → Nat
  | 0 => 0
  | n + 1 => if f n = true then maskN f n ||| 2 ^ n else maskN f n
theorem maskN_tb (f : Nat → Bool) (k : Nat) : ∀ n, (maskN f n).testBit k = (decide (k < n) && f k)
  | 0 => by simp [maskN]
  | n + 1 => by
    show (if f n = true then maskN f n ||| 2 ^ n else maskN f n).testBit k = _
    by_cases hk : k = n
    · subst hk
      by_cases hf : f k = true
      · rw [if_pos hf, tb_up, hf]
        simp
      · rw [if_neg hf, maskN_tb f k k]
        simp [hf]
    · by_cases hf : f n = true
      · rw [if_pos hf, tb_up, maskN_tb f k n]
        have e1 : decide (n = k) = false := decide_eq_false (by omega)
        have e2 : decide (k < n + 1) = decide (k < n) := decide_eq_decide.mpr (by omega)
        rw [e1, e2, Bool.or_false]
      · rw [if_neg hf, maskN_tb f k n]
        have e2 : decide (k < n + 1) = decide (k < n) := decide_eq_decide.mpr (by omega)
        rw [e2]
