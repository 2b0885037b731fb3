def tmS (i : Nat) : Term := match i with
  | 0 => .string "MillWind$Reader" 39
  | 1 => .string "MillWind$Reader" 45
  | 2 => .string "MillWind$Reader" 82
  | 3 => .string "MillWind$Reader" 84
  | 4 => .string "MillWindModel" 129
  | 5 => .string "MillWindModel" 135
  | 6 => .string "MillWindModel" 137
  | 7 => .string "MillWindModel" 139
  | 8 => .string "MillWindModel" 141
  | 9 => .string "MillWindModel" 146
  | _ => .string "MillWindModel" 148
set_option maxRecDepth 100000 in
theorem nar_S {args : Array Value} {s : State} (h : (Cond.and given_1 narrow_1).before args s = true) : (∀ i, i < 11 → (Cond.exactly (tmS i) "java/lang/String").before args s = true) ∧ (∀ i, i < 11 → (Cond.eq (.field (tmS i) "java/lang/String" "coder" "B") (.int 0)).before args s = true) ∧
    (∀ i, i < 11 → (Cond.arrayOf (.field (tmS i) "java/lang/String" "value" "[B") .byte).before args s = true) ∧ (∀ i, i < 11 → (Cond.eq (.length (.field (tmS i) "java/lang/String" "value" "[B")) (.int (Int32.ofNat (lenS.getD i 0)))).before args s = true) := by
  have hs := flat_of_before _ h
  refine ⟨fun i hi => ?_, fun i hi => ?_, fun i hi => ?_, fun i hi => ?_⟩
  · match i, hi with
    | 0, _ => exact hs _ (by decide +kernel)
    | 1, _ => exact hs _ (by decide +kernel)
    | 2, _ => exact hs _ (by decide +kernel)
    | 3, _ => exact hs _ (by decide +kernel)
    | 4, _ => exact hs _ (by decide +kernel)
    | 5, _ => exact hs _ (by decide +kernel)
    | 6, _ => exact hs _ (by decide +kernel)
    | 7, _ => exact hs _ (by decide +kernel)
    | 8, _ => exact hs _ (by decide +kernel)
    | 9, _ => exact hs _ (by decide +kernel)
    | 10, _ => exact hs _ (by decide +kernel)
    | j + 11, h => exact absurd h (by omega)
  · match i, hi with
    | 0, _ => exact hs _ (by decide +kernel)
    | 1, _ => exact hs _ (by decide +kernel)
    | 2, _ => exact hs _ (by decide +kernel)
    | 3, _ => exact hs _ (by decide +kernel)
    | 4, _ => exact hs _ (by decide +kernel)
    | 5, _ => exact hs _ (by decide +kernel)
    | 6, _ => exact hs _ (by decide +kernel)
    | 7, _ => exact hs _ (by decide +kernel)
    | 8, _ => exact hs _ (by decide +kernel)
    | 9, _ => exact hs _ (by decide +kernel)
    | 10, _ => exact hs _ (by decide +kernel)
    | j + 11, h => exact absurd h (by omega)
  · match i, hi with
    | 0, _ => exact hs _ (by decide +kernel)
    | 1, _ => exact hs _ (by decide +kernel)
    | 2, _ => exact hs _ (by decide +kernel)
    | 3, _ => exact hs _ (by decide +kernel)
    | 4, _ => exact hs _ (by decide +kernel)
    | 5, _ => exact hs _ (by decide +kernel)
    | 6, _ => exact hs _ (by decide +kernel)
    | 7, _ => exact hs _ (by decide +kernel)
    | 8, _ => exact hs _ (by decide +kernel)
    | 9, _ => exact hs _ (by decide +kernel)
    | 10, _ => exact hs _ (by decide +kernel)
    | j + 11, h => exact absurd h (by omega)
  · match i, hi with
    | 0, _ => exact hs _ (by decide +kernel)
    | 1, _ => exact hs _ (by decide +kernel)
    | 2, _ => exact hs _ (by decide +kernel)
    | 3, _ => exact hs _ (by decide +kernel)
    | 4, _ => exact hs _ (by decide +kernel)
    | 5, _ => exact hs _ (by decide +kernel)
    | 6, _ => exact hs _ (by decide +kernel)
    | 7, _ => exact hs _ (by decide +kernel)
    | 8, _ => exact hs _ (by decide +kernel)
    | 9, _ => exact hs _ (by decide +kernel)
    | 10, _ => exact hs _ (by decide +kernel)
    | j + 11, h => exact absurd h (by omega)
theorem nar_b0 {args : Array Value} {s : State} (hs : ∀ c ∈ flatC (Cond.and given_1 narrow_1), c.before args s = true) : ∀ j, j < lenS.getD 0 0 → (Cond.eq (.elem (.field (tmS 0) "java/lang/String" "value" "[B") (.int (Int32.ofNat j))) (.int ((bytS.getD 0 []).getD j 0))).before args s = true := by
  intro j hj
  have hj : j < 7 := hj
  match j, hj with
  | 0, _ => exact hs _ (by decide +kernel)
  | 1, _ => exact hs _ (by decide +kernel)
  | 2, _ => exact hs _ (by decide +kernel)
  | 3, _ => exact hs _ (by decide +kernel)
  | 4, _ => exact hs _ (by decide +kernel)
  | 5, _ => exact hs _ (by decide +kernel)
  | 6, _ => exact hs _ (by decide +kernel)
  | q + 7, h => exact absurd h (by omega)
theorem nar_b1 {args : Array Value} {s : State} (hs : ∀ c ∈ flatC (Cond.and given_1 narrow_1), c.before args s = true) : ∀ j, j < lenS.getD 1 0 → (Cond.eq (.elem (.field (tmS 1) "java/lang/String" "value" "[B") (.int (Int32.ofNat j))) (.int ((bytS.getD 1 []).getD j 0))).before args s = true := by
  intro j hj
  have hj : j < 28 := hj
  match j, hj with
  | 0, _ => exact hs _ (by decide +kernel)
  | 1, _ => exact hs _ (by decide +kernel)
  | 2, _ => exact hs _ (by decide +kernel)
  | 3, _ => exact hs _ (by decide +kernel)
  | 4, _ => exact hs _ (by decide +kernel)
  | 5, _ => exact hs _ (by decide +kernel)
  | 6, _ => exact hs _ (by decide +kernel)
  | 7, _ => exact hs _ (by decide +kernel)
  | 8, _ => exact hs _ (by decide +kernel)
  | 9, _ => exact hs _ (by decide +kernel)
  | 10, _ => exact hs _ (by decide +kernel)
  | 11, _ => exact hs _ (by decide +kernel)
  | 12, _ => exact hs _ (by decide +kernel)
  | 13, _ => exact hs _ (by decide +kernel)
  | 14, _ => exact hs _ (by decide +kernel)
  | 15, _ => exact hs _ (by decide +kernel)
  | 16, _ => exact hs _ (by decide +kernel)
  | 17, _ => exact hs _ (by decide +kernel)
  | 18, _ => exact hs _ (by decide +kernel)
  | 19, _ => exact hs _ (by decide +kernel)
  | 20, _ => exact hs _ (by decide +kernel)
  | 21, _ => exact hs _ (by decide +kernel)
  | 22, _ => exact hs _ (by decide +kernel)
  | 23, _ => exact hs _ (by decide +kernel)
  | 24, _ => exact hs _ (by decide +kernel)
  | 25, _ => exact hs _ (by decide +kernel)
  | 26, _ => exact hs _ (by decide +kernel)
  | 27, _ => exact hs _ (by decide +kernel)
  | q + 28, h => exact absurd h (by omega)
theorem nar_b2 {args : Array Value} {s : State} (hs : ∀ c ∈ flatC (Cond.and given_1 narrow_1), c.before args s = true) : ∀ j, j < lenS.getD 2 0 → (Cond.eq (.elem (.field (tmS 2) "java/lang/String" "value" "[B") (.int (Int32.ofNat j))) (.int ((bytS.getD 2 []).getD j 0))).before args s = true := by
  intro j hj
  have hj : j < 6 := hj
  match j, hj with
  | 0, _ => exact hs _ (by decide +kernel)
  | 1, _ => exact hs _ (by decide +kernel)
  | 2, _ => exact hs _ (by decide +kernel)
  | 3, _ => exact hs _ (by decide +kernel)
  | 4, _ => exact hs _ (by decide +kernel)
  | 5, _ => exact hs _ (by decide +kernel)
  | q + 6, h => exact absurd h (by omega)
theorem nar_b3 {args : Array Value} {s : State} (hs : ∀ c ∈ flatC (Cond.and given_1 narrow_1), c.before args s = true) : ∀ j, j < lenS.getD 3 0 → (Cond.eq (.elem (.field (tmS 3) "java/lang/String" "value" "[B") (.int (Int32.ofNat j))) (.int ((bytS.getD 3 []).getD j 0))).before args s = true := by
  intro j hj
  have hj : j < 3 := hj
  match j, hj with
  | 0, _ => exact hs _ (by decide +kernel)
  | 1, _ => exact hs _ (by decide +kernel)
  | 2, _ => exact hs _ (by decide +kernel)
  | q + 3, h => exact absurd h (by omega)
theorem nar_b4 {args : Array Value} {s : State} (hs : ∀ c ∈ flatC (Cond.and given_1 narrow_1), c.before args s = true) : ∀ j, j < lenS.getD 4 0 → (Cond.eq (.elem (.field (tmS 4) "java/lang/String" "value" "[B") (.int (Int32.ofNat j))) (.int ((bytS.getD 4 []).getD j 0))).before args s = true := by
  intro j hj
  have hj : j < 5 := hj
  match j, hj with
  | 0, _ => exact hs _ (by decide +kernel)
  | 1, _ => exact hs _ (by decide +kernel)
  | 2, _ => exact hs _ (by decide +kernel)
  | 3, _ => exact hs _ (by decide +kernel)
  | 4, _ => exact hs _ (by decide +kernel)
  | q + 5, h => exact absurd h (by omega)
theorem nar_b5 {args : Array Value} {s : State} (hs : ∀ c ∈ flatC (Cond.and given_1 narrow_1), c.before args s = true) : ∀ j, j < lenS.getD 5 0 → (Cond.eq (.elem (.field (tmS 5) "java/lang/String" "value" "[B") (.int (Int32.ofNat j))) (.int ((bytS.getD 5 []).getD j 0))).before args s = true := by
  intro j hj
  have hj : j < 5 := hj
  match j, hj with
  | 0, _ => exact hs _ (by decide +kernel)
  | 1, _ => exact hs _ (by decide +kernel)
  | 2, _ => exact hs _ (by decide +kernel)
  | 3, _ => exact hs _ (by decide +kernel)
  | 4, _ => exact hs _ (by decide +kernel)
  | q + 5, h => exact absurd h (by omega)
theorem nar_b6 {args : Array Value} {s : State} (hs : ∀ c ∈ flatC (Cond.and given_1 narrow_1), c.before args s = true) : ∀ j, j < lenS.getD 6 0 → (Cond.eq (.elem (.field (tmS 6) "java/lang/String" "value" "[B") (.int (Int32.ofNat j))) (.int ((bytS.getD 6 []).getD j 0))).before args s = true := by
  intro j hj
  have hj : j < 5 := hj
  match j, hj with
  | 0, _ => exact hs _ (by decide +kernel)
  | 1, _ => exact hs _ (by decide +kernel)
  | 2, _ => exact hs _ (by decide +kernel)
  | 3, _ => exact hs _ (by decide +kernel)
  | 4, _ => exact hs _ (by decide +kernel)
  | q + 5, h => exact absurd h (by omega)
theorem nar_b7 {args : Array Value} {s : State} (hs : ∀ c ∈ flatC (Cond.and given_1 narrow_1), c.before args s = true) : ∀ j, j < lenS.getD 7 0 → (Cond.eq (.elem (.field (tmS 7) "java/lang/String" "value" "[B") (.int (Int32.ofNat j))) (.int ((bytS.getD 7 []).getD j 0))).before args s = true := by
  intro j hj
  have hj : j < 5 := hj
  match j, hj with
  | 0, _ => exact hs _ (by decide +kernel)
  | 1, _ => exact hs _ (by decide +kernel)
  | 2, _ => exact hs _ (by decide +kernel)
  | 3, _ => exact hs _ (by decide +kernel)
  | 4, _ => exact hs _ (by decide +kernel)
  | q + 5, h => exact absurd h (by omega)
theorem nar_b8 {args : Array Value} {s : State} (hs : ∀ c ∈ flatC (Cond.and given_1 narrow_1), c.before args s = true) : ∀ j, j < lenS.getD 8 0 → (Cond.eq (.elem (.field (tmS 8) "java/lang/String" "value" "[B") (.int (Int32.ofNat j))) (.int ((bytS.getD 8 []).getD j 0))).before args s = true := by
  intro j hj
  have hj : j < 5 := hj
  match j, hj with
  | 0, _ => exact hs _ (by decide +kernel)
  | 1, _ => exact hs _ (by decide +kernel)
  | 2, _ => exact hs _ (by decide +kernel)
  | 3, _ => exact hs _ (by decide +kernel)
  | 4, _ => exact hs _ (by decide +kernel)
  | q + 5, h => exact absurd h (by omega)
theorem nar_b9 {args : Array Value} {s : State} (hs : ∀ c ∈ flatC (Cond.and given_1 narrow_1), c.before args s = true) : ∀ j, j < lenS.getD 9 0 → (Cond.eq (.elem (.field (tmS 9) "java/lang/String" "value" "[B") (.int (Int32.ofNat j))) (.int ((bytS.getD 9 []).getD j 0))).before args s = true := by
  intro j hj
  have hj : j < 5 := hj
  match j, hj with
  | 0, _ => exact hs _ (by decide +kernel)
  | 1, _ => exact hs _ (by decide +kernel)
  | 2, _ => exact hs _ (by decide +kernel)
  | 3, _ => exact hs _ (by decide +kernel)
  | 4, _ => exact hs _ (by decide +kernel)
  | q + 5, h => exact absurd h (by omega)
theorem nar_b10 {args : Array Value} {s : State} (hs : ∀ c ∈ flatC (Cond.and given_1 narrow_1), c.before args s = true) : ∀ j, j < lenS.getD 10 0 → (Cond.eq (.elem (.field (tmS 10) "java/lang/String" "value" "[B") (.int (Int32.ofNat j))) (.int ((bytS.getD 10 []).getD j 0))).before args s = true := by
  intro j hj
  have hj : j < 5 := hj
  match j, hj with
  | 0, _ => exact hs _ (by decide +kernel)
  | 1, _ => exact hs _ (by decide +kernel)
  | 2, _ => exact hs _ (by decide +kernel)
  | 3, _ => exact hs _ (by decide +kernel)
  | 4, _ => exact hs _ (by decide +kernel)
  | q + 5, h => exact absurd h (by omega)
theorem nar_B {args : Array Value} {s : State} (h : (Cond.and given_1 narrow_1).before args s = true) : ∀ i, i < 11 → ∀ j, j < lenS.getD i 0 → (Cond.eq (.elem (.field (tmS i) "java/lang/String" "value" "[B") (.int (Int32.ofNat j))) (.int ((bytS.getD i []).getD j 0))).before args s = true := by
  have hs := flat_of_before _ h
  intro i hi
  match i, hi with
  | 0, _ => exact nar_b0 hs
  | 1, _ => exact nar_b1 hs
  | 2, _ => exact nar_b2 hs
  | 3, _ => exact nar_b3 hs
  | 4, _ => exact nar_b4 hs
  | 5, _ => exact nar_b5 hs
  | 6, _ => exact nar_b6 hs
  | 7, _ => exact nar_b7 hs
  | 8, _ => exact nar_b8 hs
  | 9, _ => exact nar_b9 hs
  | 10, _ => exact nar_b10 hs
  | j + 11, h => exact absurd h (by omega)
theorem nar_N {args : Array Value} {s : State} (h : (Cond.and given_1 narrow_1).before args s = true) : ∀ i j, i < 11 → j < 11 → i ≠ j → (Cond.not (Cond.eq (tmS i) (tmS j))).before args s = true ∨ (Cond.not (Cond.eq (tmS j) (tmS i))).before args s = true := by
  have hs := flat_of_before _ h
  have key : ∀ i j, i < j → j < 11 → (Cond.not (Cond.eq (tmS i) (tmS j))).before args s = true ∨ (Cond.not (Cond.eq (tmS j) (tmS i))).before args s = true := by
    intro i j hij hj
    have hi : i < 10 := by omega
    match i, hi, j, hj with
    | 0, _, 0, _ => exact absurd hij (by omega)
    | 0, _, 1, _ => exact Or.inl (hs _ (by decide +kernel))
    | 0, _, 2, _ => exact Or.inl (hs _ (by decide +kernel))
    | 0, _, 3, _ => exact Or.inl (hs _ (by decide +kernel))
    | 0, _, 4, _ => exact Or.inl (hs _ (by decide +kernel))
    | 0, _, 5, _ => exact Or.inl (hs _ (by decide +kernel))
    | 0, _, 6, _ => exact Or.inl (hs _ (by decide +kernel))
    | 0, _, 7, _ => exact Or.inl (hs _ (by decide +kernel))
    | 0, _, 8, _ => exact Or.inl (hs _ (by decide +kernel))
    | 0, _, 9, _ => exact Or.inl (hs _ (by decide +kernel))
    | 0, _, 10, _ => exact Or.inl (hs _ (by decide +kernel))
    | 0, _, k + 11, h => exact absurd h (by omega)
    | 1, _, 0, _ => exact absurd hij (by omega)
    | 1, _, 1, _ => exact absurd hij (by omega)
    | 1, _, 2, _ => exact Or.inl (hs _ (by decide +kernel))
    | 1, _, 3, _ => exact Or.inl (hs _ (by decide +kernel))
    | 1, _, 4, _ => exact Or.inl (hs _ (by decide +kernel))
    | 1, _, 5, _ => exact Or.inl (hs _ (by decide +kernel))
    | 1, _, 6, _ => exact Or.inl (hs _ (by decide +kernel))
    | 1, _, 7, _ => exact Or.inl (hs _ (by decide +kernel))
    | 1, _, 8, _ => exact Or.inl (hs _ (by decide +kernel))
    | 1, _, 9, _ => exact Or.inl (hs _ (by decide +kernel))
    | 1, _, 10, _ => exact Or.inl (hs _ (by decide +kernel))
    | 1, _, k + 11, h => exact absurd h (by omega)
    | 2, _, 0, _ => exact absurd hij (by omega)
    | 2, _, 1, _ => exact absurd hij (by omega)
    | 2, _, 2, _ => exact absurd hij (by omega)
    | 2, _, 3, _ => exact Or.inl (hs _ (by decide +kernel))
    | 2, _, 4, _ => exact Or.inl (hs _ (by decide +kernel))
    | 2, _, 5, _ => exact Or.inl (hs _ (by decide +kernel))
    | 2, _, 6, _ => exact Or.inl (hs _ (by decide +kernel))
    | 2, _, 7, _ => exact Or.inl (hs _ (by decide +kernel))
    | 2, _, 8, _ => exact Or.inl (hs _ (by decide +kernel))
    | 2, _, 9, _ => exact Or.inl (hs _ (by decide +kernel))
    | 2, _, 10, _ => exact Or.inl (hs _ (by decide +kernel))
    | 2, _, k + 11, h => exact absurd h (by omega)
    | 3, _, 0, _ => exact absurd hij (by omega)
    | 3, _, 1, _ => exact absurd hij (by omega)
    | 3, _, 2, _ => exact absurd hij (by omega)
    | 3, _, 3, _ => exact absurd hij (by omega)
    | 3, _, 4, _ => exact Or.inl (hs _ (by decide +kernel))
    | 3, _, 5, _ => exact Or.inl (hs _ (by decide +kernel))
    | 3, _, 6, _ => exact Or.inl (hs _ (by decide +kernel))
    | 3, _, 7, _ => exact Or.inl (hs _ (by decide +kernel))
    | 3, _, 8, _ => exact Or.inl (hs _ (by decide +kernel))
    | 3, _, 9, _ => exact Or.inl (hs _ (by decide +kernel))
    | 3, _, 10, _ => exact Or.inl (hs _ (by decide +kernel))
    | 3, _, k + 11, h => exact absurd h (by omega)
    | 4, _, 0, _ => exact absurd hij (by omega)
    | 4, _, 1, _ => exact absurd hij (by omega)
    | 4, _, 2, _ => exact absurd hij (by omega)
    | 4, _, 3, _ => exact absurd hij (by omega)
    | 4, _, 4, _ => exact absurd hij (by omega)
    | 4, _, 5, _ => exact Or.inl (hs _ (by decide +kernel))
    | 4, _, 6, _ => exact Or.inl (hs _ (by decide +kernel))
    | 4, _, 7, _ => exact Or.inl (hs _ (by decide +kernel))
    | 4, _, 8, _ => exact Or.inl (hs _ (by decide +kernel))
    | 4, _, 9, _ => exact Or.inl (hs _ (by decide +kernel))
    | 4, _, 10, _ => exact Or.inl (hs _ (by decide +kernel))
    | 4, _, k + 11, h => exact absurd h (by omega)
    | 5, _, 0, _ => exact absurd hij (by omega)
    | 5, _, 1, _ => exact absurd hij (by omega)
    | 5, _, 2, _ => exact absurd hij (by omega)
    | 5, _, 3, _ => exact absurd hij (by omega)
    | 5, _, 4, _ => exact absurd hij (by omega)
    | 5, _, 5, _ => exact absurd hij (by omega)
    | 5, _, 6, _ => exact Or.inl (hs _ (by decide +kernel))
    | 5, _, 7, _ => exact Or.inl (hs _ (by decide +kernel))
    | 5, _, 8, _ => exact Or.inl (hs _ (by decide +kernel))
    | 5, _, 9, _ => exact Or.inl (hs _ (by decide +kernel))
    | 5, _, 10, _ => exact Or.inl (hs _ (by decide +kernel))
    | 5, _, k + 11, h => exact absurd h (by omega)
    | 6, _, 0, _ => exact absurd hij (by omega)
    | 6, _, 1, _ => exact absurd hij (by omega)
    | 6, _, 2, _ => exact absurd hij (by omega)
    | 6, _, 3, _ => exact absurd hij (by omega)
    | 6, _, 4, _ => exact absurd hij (by omega)
    | 6, _, 5, _ => exact absurd hij (by omega)
    | 6, _, 6, _ => exact absurd hij (by omega)
    | 6, _, 7, _ => exact Or.inl (hs _ (by decide +kernel))
    | 6, _, 8, _ => exact Or.inl (hs _ (by decide +kernel))
    | 6, _, 9, _ => exact Or.inl (hs _ (by decide +kernel))
    | 6, _, 10, _ => exact Or.inl (hs _ (by decide +kernel))
    | 6, _, k + 11, h => exact absurd h (by omega)
    | 7, _, 0, _ => exact absurd hij (by omega)
    | 7, _, 1, _ => exact absurd hij (by omega)
    | 7, _, 2, _ => exact absurd hij (by omega)
    | 7, _, 3, _ => exact absurd hij (by omega)
    | 7, _, 4, _ => exact absurd hij (by omega)
    | 7, _, 5, _ => exact absurd hij (by omega)
    | 7, _, 6, _ => exact absurd hij (by omega)
    | 7, _, 7, _ => exact absurd hij (by omega)
    | 7, _, 8, _ => exact Or.inl (hs _ (by decide +kernel))
    | 7, _, 9, _ => exact Or.inl (hs _ (by decide +kernel))
    | 7, _, 10, _ => exact Or.inl (hs _ (by decide +kernel))
    | 7, _, k + 11, h => exact absurd h (by omega)
    | 8, _, 0, _ => exact absurd hij (by omega)
    | 8, _, 1, _ => exact absurd hij (by omega)
    | 8, _, 2, _ => exact absurd hij (by omega)
    | 8, _, 3, _ => exact absurd hij (by omega)
    | 8, _, 4, _ => exact absurd hij (by omega)
    | 8, _, 5, _ => exact absurd hij (by omega)
    | 8, _, 6, _ => exact absurd hij (by omega)
    | 8, _, 7, _ => exact absurd hij (by omega)
    | 8, _, 8, _ => exact absurd hij (by omega)
    | 8, _, 9, _ => exact Or.inl (hs _ (by decide +kernel))
    | 8, _, 10, _ => exact Or.inl (hs _ (by decide +kernel))
    | 8, _, k + 11, h => exact absurd h (by omega)
    | 9, _, 0, _ => exact absurd hij (by omega)
    | 9, _, 1, _ => exact absurd hij (by omega)
    | 9, _, 2, _ => exact absurd hij (by omega)
    | 9, _, 3, _ => exact absurd hij (by omega)
    | 9, _, 4, _ => exact absurd hij (by omega)
    | 9, _, 5, _ => exact absurd hij (by omega)
    | 9, _, 6, _ => exact absurd hij (by omega)
    | 9, _, 7, _ => exact absurd hij (by omega)
    | 9, _, 8, _ => exact absurd hij (by omega)
    | 9, _, 9, _ => exact absurd hij (by omega)
    | 9, _, 10, _ => exact Or.inl (hs _ (by decide +kernel))
    | 9, _, k + 11, h => exact absurd h (by omega)
    | k + 10, h, _, _ => exact absurd h (by omega)
  intro i j hi hj hne
  rcases Nat.lt_or_ge i j with q | q
  · exact key i j q hj
  · exact (key j i (by omega) hi).symm
theorem nar_A {args : Array Value} {s : State} (h : (Cond.and given_1 narrow_1).before args s = true) : (Cond.arrayOf (.static "MillWind$Rules" "ABOVE" "[I") .int).before args s = true ∧ (Cond.eq (.length (.static "MillWind$Rules" "ABOVE" "[I")) (.int (Int32.ofNat 7))).before args s = true ∧ ∀ j, j < 7 → (Cond.eq (.elem (.static "MillWind$Rules" "ABOVE" "[I") (.int (Int32.ofNat j))) (.int (tAbove.getD j 0))).before args s = true := by
  have hs := flat_of_before _ h
  refine ⟨hs _ (by decide +kernel), hs _ (by decide +kernel), fun j hj => ?_⟩
  match j, hj with
  | 0, _ => exact hs _ (by decide +kernel)
  | 1, _ => exact hs _ (by decide +kernel)
  | 2, _ => exact hs _ (by decide +kernel)
  | 3, _ => exact hs _ (by decide +kernel)
  | 4, _ => exact hs _ (by decide +kernel)
  | 5, _ => exact hs _ (by decide +kernel)
  | 6, _ => exact hs _ (by decide +kernel)
  | q + 7, h => exact absurd h (by omega)
theorem nar_O {args : Array Value} {s : State} (h : (Cond.and given_1 narrow_1).before args s = true) : (Cond.arrayOf (.static "MillWind$Acts" "BODIES" "[I") .int).before args s = true ∧ (Cond.eq (.length (.static "MillWind$Acts" "BODIES" "[I")) (.int (Int32.ofNat 21))).before args s = true ∧ ∀ j, j < 21 → (Cond.eq (.elem (.static "MillWind$Acts" "BODIES" "[I") (.int (Int32.ofNat j))) (.int (tBodies.getD j 0))).before args s = true := by
  have hs := flat_of_before _ h
  refine ⟨hs _ (by decide +kernel), hs _ (by decide +kernel), fun j hj => ?_⟩
  match j, hj with
  | 0, _ => exact hs _ (by decide +kernel)
  | 1, _ => exact hs _ (by decide +kernel)
  | 2, _ => exact hs _ (by decide +kernel)
  | 3, _ => exact hs _ (by decide +kernel)
  | 4, _ => exact hs _ (by decide +kernel)
  | 5, _ => exact hs _ (by decide +kernel)
  | 6, _ => exact hs _ (by decide +kernel)
  | 7, _ => exact hs _ (by decide +kernel)
  | 8, _ => exact hs _ (by decide +kernel)
  | 9, _ => exact hs _ (by decide +kernel)
  | 10, _ => exact hs _ (by decide +kernel)
  | 11, _ => exact hs _ (by decide +kernel)
  | 12, _ => exact hs _ (by decide +kernel)
  | 13, _ => exact hs _ (by decide +kernel)
  | 14, _ => exact hs _ (by decide +kernel)
  | 15, _ => exact hs _ (by decide +kernel)
  | 16, _ => exact hs _ (by decide +kernel)
  | 17, _ => exact hs _ (by decide +kernel)
  | 18, _ => exact hs _ (by decide +kernel)
  | 19, _ => exact hs _ (by decide +kernel)
  | 20, _ => exact hs _ (by decide +kernel)
  | q + 21, h => exact absurd h (by omega)
set_option maxHeartbeats 4000000 in
theorem sta_at {args : Array Value} {s : State} (hts : ∀ w ∈ lw_tbl, w.before args s = true) (hgv : (Cond.and given_1 narrow_1).before args s = true) : ∃ st : Nat → Nat, ∀ (D : va_G) (ad : Nat → Nat) (ca : Nat → ClassId) (A : Nat → Prop), (∀ a : Nat, a < s.heap.size → ¬ A a) → Sta (D, ad, A, ca, st) s s.heap := by
  have hs := flat_of_before _ hgv
  have hA0 : ∀ a : Nat, a < s.heap.size → ¬ (fun q : Nat => s.heap.size ≤ q) a := fun a h => Nat.not_le.mpr h
  obtain ⟨n1, n2, n3, n4⟩ := nar_S hgv
  obtain ⟨adK, adV, hS, hSe⟩ := vk_Sof (N := 11) (tm := tmS) (len := lenS) (byt := bytS) (A := fun q : Nat => s.heap.size ≤ q) (by decide) n1 n2 n3 n4 (fun i hi j hj => nar_B hgv i hi j hj) (nar_N hgv) hA0
  obtain ⟨a1, a2, a3⟩ := nar_A hgv
  obtain ⟨tA, hA1, hA2⟩ := va_Tof (tm := .static "MillWind$Rules" "ABOVE" "[I") (ty := .int) (N := 7) (f := fun j => .int (tAbove.getD j 0)) (A := fun q : Nat => s.heap.size ≤ q) (by decide) a1 (va_eqt a2) (fun j hj => va_eqt (a3 j hj)) hA0
  obtain ⟨b1, b2, b3⟩ := nar_O hgv
  obtain ⟨tB, hB1, hB2⟩ := va_Tof (tm := .static "MillWind$Acts" "BODIES" "[I") (ty := .int) (N := 21) (f := fun j => .int (tBodies.getD j 0)) (A := fun q : Nat => s.heap.size ≤ q) (by decide) b1 (va_eqt b2) (fun j hj => va_eqt (b3 j hj)) hA0
  have z1 := va_Zref (A := fun q : Nat => s.heap.size ≤ q) (hts _ (List.mem_of_getElem? (i := 944) (by decide +kernel))) (hts _ (List.mem_of_getElem? (i := 81) (by decide +kernel))) hA1 hA0
  have z2 := va_Zref (A := fun q : Nat => s.heap.size ≤ q) (hts _ (List.mem_of_getElem? (i := 939) (by decide +kernel))) (hts _ (List.mem_of_getElem? (i := 86) (by decide +kernel))) hB1 hA0
  have z3 := va_Zof (A := fun q : Nat => s.heap.size ≤ q) (hts _ (List.mem_of_getElem? (i := 475) (by decide +kernel))) (hts _ (List.mem_of_getElem? (i := 90) (by decide +kernel))) (va_eqi (z := 1) (hs (.eq (.static "java/lang/String" "COMPACT_STRINGS" "Z") (.int 1)) (by decide +kernel))) hA0
  have z4 := va_Zqof (A := fun q : Nat => s.heap.size ≤ q) (hts _ (List.mem_of_getElem? (i := 518) (by decide +kernel))) (hts _ (List.mem_of_getElem? (i := 94) (by decide +kernel))) (hs (.isRef (.static "jdk/internal/util/Preconditions" "SIOOBE_FORMATTER" "Ljava/util/function/BiFunction;")) (by decide +kernel)) hA0
  refine ⟨fun k => if k = 0 then tA else if k = 1 then tB else if k < 20 then adK (k - 2) else adV (k - 20), fun D ad ca A hA => ?_⟩
  have hAB : ∀ q : Nat, A q → s.heap.size ≤ q := fun q h => Nat.not_lt.mp fun z => hA q z h
  refine ⟨z1.narrow hAB, hA2.narrow hAB, z2.narrow hAB, hB2.narrow hAB, z3.narrow hAB, z4.narrow hAB, ?_, ?_⟩
  · have h1 := hS.narrow hAB
    refine ⟨fun i hi => ?_, fun i j hi hj e => ?_⟩
    · have e1 : (fun k => if k = 0 then tA else if k = 1 then tB else if k < 20 then adK (k - 2) else adV (k - 20)) (2 + i) = adK i := by
        show (if 2 + i = 0 then tA else if 2 + i = 1 then tB else if 2 + i < 20 then adK (2 + i - 2) else adV (2 + i - 20)) = adK i
        rw [if_neg (by omega), if_neg (by omega), if_pos (by omega), Nat.add_sub_cancel_left]
      have e2 : (fun k => if k = 0 then tA else if k = 1 then tB else if k < 20 then adK (k - 2) else adV (k - 20)) (20 + i) = adV i := by
        show (if 20 + i = 0 then tA else if 20 + i = 1 then tB else if 20 + i < 20 then adK (20 + i - 2) else adV (20 + i - 20)) = adV i
        rw [if_neg (by omega), if_neg (by omega), if_neg (by omega), Nat.add_sub_cancel_left]
      have h2 := h1.1 i hi
      show va_O _ ((fun k => if k = 0 then tA else if k = 1 then tB else if k < 20 then adK (k - 2) else adV (k - 20)) (2 + i)) _ _ _ ∧ va_OF _ _ _ _ ((fun k => if k = 0 then tA else if k = 1 then tB else if k < 20 then adK (k - 2) else adV (k - 20)) (2 + i)) _ _ _ ∧ va_OF _ _ _ (.ref ((fun k => if k = 0 then tA else if k = 1 then tB else if k < 20 then adK (k - 2) else adV (k - 20)) (20 + i))) ((fun k => if k = 0 then tA else if k = 1 then tB else if k < 20 then adK (k - 2) else adV (k - 20)) (2 + i)) _ _ _ ∧ va_T _ ((fun k => if k = 0 then tA else if k = 1 then tB else if k < 20 then adK (k - 2) else adV (k - 20)) (20 + i)) _ _ _ _ _
      rw [e1, e2]
      exact h2
    · refine h1.2 i j hi hj ?_
      have e3 : ∀ i, i < 11 → (fun k => if k = 0 then tA else if k = 1 then tB else if k < 20 then adK (k - 2) else adV (k - 20)) (2 + i) = adK i := fun i hi => by
        show (if 2 + i = 0 then tA else if 2 + i = 1 then tB else if 2 + i < 20 then adK (2 + i - 2) else adV (2 + i - 20)) = adK i
        rw [if_neg (by omega), if_neg (by omega), if_pos (by omega), Nat.add_sub_cancel_left]
      have e4 := e3 i hi
      have e5 := e3 j hj
      exact e4.symm.trans (Eq.trans e e5)
  · have ev := fun (i : Nat) (hi : i < 11) => hSe i hi
    intro q hq
    simp only [strR, List.mem_cons, List.not_mem_nil, or_false] at hq
    rcases hq with rfl | rfl | rfl | rfl | rfl | rfl | rfl | rfl | rfl | rfl | rfl | rfl | rfl
    · exact vk_R.of (hts _ (List.mem_of_getElem? (i := 453) (by decide +kernel))) (ev 0 (by decide))
    · exact vk_R.of (hts _ (List.mem_of_getElem? (i := 548) (by decide +kernel))) (ev 1 (by decide))
    · exact vk_R.of (hts _ (List.mem_of_getElem? (i := 597) (by decide +kernel))) (ev 2 (by decide))
    · exact vk_R.of (hts _ (List.mem_of_getElem? (i := 598) (by decide +kernel))) (ev 3 (by decide))
    · exact vk_R.of (hts _ (List.mem_of_getElem? (i := 1193) (by decide +kernel))) (va_eqR (hs (.eq (tmS 2) (.string "MillWindModel" 111)) (by decide +kernel)) (ev 2 (by decide)))
    · exact vk_R.of (hts _ (List.mem_of_getElem? (i := 1198) (by decide +kernel))) (va_eqR (hs (.eq (tmS 3) (.string "MillWindModel" 117)) (by decide +kernel)) (ev 3 (by decide)))
    · exact vk_R.of (hts _ (List.mem_of_getElem? (i := 1158) (by decide +kernel))) (ev 4 (by decide))
    · exact vk_R.of (hts _ (List.mem_of_getElem? (i := 1199) (by decide +kernel))) (ev 5 (by decide))
    · exact vk_R.of (hts _ (List.mem_of_getElem? (i := 1200) (by decide +kernel))) (ev 6 (by decide))
    · exact vk_R.of (hts _ (List.mem_of_getElem? (i := 1201) (by decide +kernel))) (ev 7 (by decide))
    · exact vk_R.of (hts _ (List.mem_of_getElem? (i := 1202) (by decide +kernel))) (ev 8 (by decide))
    · exact vk_R.of (hts _ (List.mem_of_getElem? (i := 1207) (by decide +kernel))) (ev 9 (by decide))
    · exact vk_R.of (hts _ (List.mem_of_getElem? (i := 1208) (by decide +kernel))) (ev 10 (by decide))
