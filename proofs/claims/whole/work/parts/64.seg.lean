/-! LETTERS -/
def LW (w n : Nat) (L : Nat → Nat) : Prop := lenS.getD w 0 = n ∧ 0 < n ∧ n ≤ 28 ∧ ∀ i, i < n → chS w i = nI (L i) ∧ L i < 128
theorem len_w {w n : Nat} {L : Nat → Nat} (h : LW w n L) (σ : Mem) : f_J0_length_8abf5 w σ = some (nI n, σ) := by
  have hn := h.2.2.1
  unfold f_J0_length_8abf5
  rw [show f_J0_coder_7d493 w σ = some (0, σ) from rfl, bd_some, h.1, show ((0 : Int32) &&& 31) = nI 0 from rfl, nIshr (by omega) (by omega), Nat.pow_zero, Nat.div_one]
theorem sx_lo {b : Nat} (h : b < 128) : (nI b).toInt8.toInt32 = nI b := by
  have : ∀ q : Fin 128, (nI q.val).toInt8.toInt32 = nI q.val := by decide +kernel
  exact this ⟨b, h⟩
theorem sx_hi {b : Nat} (h1 : 128 ≤ b) (h2 : b < 256) : (nI b).toInt8.toInt32 < 0 := by
  have : ∀ q : Fin 128, (nI (128 + q.val)).toInt8.toInt32 < 0 := by decide +kernel
  have := this ⟨b - 128, by omega⟩
  rw [show 128 + (b - 128) = b by omega] at this
  exact this
theorem sx_eq {b c : Nat} (hb : b < 256) (hc : c < 128) : (nI c = (nI b).toInt8.toInt32) = (b = c) := by
  apply propext
  by_cases q : b < 128
  · rw [sx_lo q]
    exact ⟨fun z => (nI_inj (by omega) (by omega) z).symm, fun z => by rw [z]⟩
  · have h := sx_hi (show 128 ≤ b by omega) hb
    exact ⟨fun z => absurd (z ▸ h) (nI_pos (by omega)), fun z => by omega⟩
theorem ch_val {c : Nat} (h : c < 128) : (((nI c) &&& (255 : Int32)).toUInt32 % 65536).toInt32 = nI c := by
  have : ∀ q : Fin 128, (((nI q.val) &&& (255 : Int32)).toUInt32 % 65536).toInt32 = nI q.val := by decide +kernel
  exact this ⟨c, h⟩
theorem ch_u {c : Nat} (h : c < 256) : ((nI c).toUInt32 % 65536).toInt32 = nI c := by
  have : ∀ q : Fin 256, ((nI q.val).toUInt32 % 65536).toInt32 = nI q.val := by decide +kernel
  exact this ⟨c, h⟩
theorem charAt_ {w n : Nat} {L : Nat → Nat} (h : LW w n L) {i : Nat} (hi : i < n) (σ : Mem) : f_J0_charAt_5068e w (nI i) σ = some (nI (L i), σ) := by
  obtain ⟨h1, h2, h3, h4⟩ := h
  obtain ⟨c1, c2⟩ := h4 i hi
  have ec : ic (nI (L i)) = true := by
    unfold ic
    exact decide_eq_true (ch_u (by omega))
  have e1 : f_J1_charAt_3b067 w (nI i) σ = some (nI (L i), σ) := by
    unfold f_J1_charAt_3b067 f_J0_checkIndex_df160 f_J3_checkIndex_8e157
    rw [h1, if_neg (nI_pos (by omega)), if_pos (nI_lt hi (by omega)), bd_some, bv_some, ib_nI hi (by omega), gd_true, nI_tn (by omega), c1, ch_val c2, ec, gd_true]
  unfold f_J0_charAt_5068e
  rw [show f_J0_isLatin1_aae02 w σ = some (1, σ) from rfl, bd_some, if_neg (by decide), e1, bd_some, ec, gd_true]
theorem c_index {w n : Nat} {L : Nat → Nat} (h : LW w n L) {b : Nat} (hb : b < 256) (σ : Mem) : (∃ i, i < n ∧ b = L i ∧ (∀ j, j < i → b ≠ L j) ∧ f_J0_indexOf_0f7a4 w (nI b) σ = some (nI i, σ)) ∨ ((∀ i, i < n → b ≠ L i) ∧ f_J0_indexOf_0f7a4 w (nI b) σ = some (-1, σ)) := by
  have hh := h
  obtain ⟨h1, h2, h3, h4⟩ := h
  have e1 : f_J0_indexOf_0f7a4 w (nI b) σ = fx4 (f_J1_indexOfChar_4cfef_7 w) FU (nI n) ((nI b).toInt8.toInt32) (nI 0) σ := by
    have ec : f_J1_canEncode_9a6ad (nI b) σ = some (1, σ) := by
      unfold f_J1_canEncode_9a6ad
      rw [if_neg (nI_pos (by omega)), if_neg (show ¬ (255 : Int32) < nI b from nI_nlt (a := 255) (by omega) (by omega))]
    have e2 : f_J1_indexOf_4cfef w (nI b) (0 : Int32) (nI n) σ = fx4 (f_J1_indexOfChar_4cfef_7 w) FU (nI n) ((nI b).toInt8.toInt32) (nI 0) σ := by
      unfold f_J1_indexOf_4cfef f_J1_indexOfChar_4cfef
      rw [ec, bd_some, if_neg (by decide), show imx (0 : Int32) (0 : Int32) = nI 0 from rfl, h1, imn_nI (by omega) (by omega), Nat.min_self, lt_eq, lt_eq, if_pos (nI_lt h2 (by omega)), lt_eq]
      cases fx4 (f_J1_indexOfChar_4cfef_7 w) FU (nI n) ((nI b).toInt8.toInt32) (nI 0) σ <;> rfl
    unfold f_J0_indexOf_0f7a4 f_J0_indexOf_7cf53
    rw [show f_J0_isLatin1_aae02 w σ = some (1, σ) from rfl, bd_some, if_neg (by decide), len_w hh, bd_some, e2]
    cases fx4 (f_J1_indexOfChar_4cfef_7 w) FU (nI n) ((nI b).toInt8.toInt32) (nI 0) σ <;> rfl
  rw [e1]
  have key : ∀ m i fu : Nat, i + m = n → m < fu → (∀ j, j < i → b ≠ L j) → (∃ i, i < n ∧ b = L i ∧ (∀ j, j < i → b ≠ L j) ∧ fx4 (f_J1_indexOfChar_4cfef_7 w) fu (nI n) ((nI b).toInt8.toInt32) (nI i) σ = fx4 (f_J1_indexOfChar_4cfef_7 w) fu (nI n) ((nI b).toInt8.toInt32) (nI i) σ) ∨ True := fun _ _ _ _ _ _ => Or.inr trivial
  have key : ∀ m i fu : Nat, i + m = n → m < fu → (∀ j, j < i → b ≠ L j) → ((∃ x, x < n ∧ b = L x ∧ (∀ j, j < x → b ≠ L j) ∧ fx4 (f_J1_indexOfChar_4cfef_7 w) fu (nI n) ((nI b).toInt8.toInt32) (nI i) σ = some (nI x, σ)) ∨ ((∀ x, x < n → b ≠ L x) ∧ fx4 (f_J1_indexOfChar_4cfef_7 w) fu (nI n) ((nI b).toInt8.toInt32) (nI i) σ = some (-1, σ))) := by
    intro m
    induction m with
    | zero =>
      intro i fu hi hf hj
      obtain ⟨fu, rfl⟩ : ∃ z, fu = z + 1 := ⟨fu - 1, by omega⟩
      have hi : i = n := by omega
      subst hi
      refine Or.inr ⟨hj, ?_⟩
      show f_J1_indexOfChar_4cfef_7 w _ _ _ _ _ = _
      unfold f_J1_indexOfChar_4cfef_7
      exact if_pos (nI_le (Nat.le_refl _) (by omega))
    | succ m ih =>
      intro i fu hi hf hj
      obtain ⟨fu, rfl⟩ : ∃ z, fu = z + 1 := ⟨fu - 1, by omega⟩
      obtain ⟨c1, c2⟩ := h4 i (by omega)
      show (∃ x, x < n ∧ b = L x ∧ (∀ j, j < x → b ≠ L j) ∧ f_J1_indexOfChar_4cfef_7 w (fx4 (f_J1_indexOfChar_4cfef_7 w) fu) _ _ _ _ = _) ∨ (_ ∧ f_J1_indexOfChar_4cfef_7 w (fx4 (f_J1_indexOfChar_4cfef_7 w) fu) _ _ _ _ = _)
      have st : f_J1_indexOfChar_4cfef_7 w (fx4 (f_J1_indexOfChar_4cfef_7 w) fu) (nI n) ((nI b).toInt8.toInt32) (nI i) σ = if b = L i then some (nI i, σ) else fx4 (f_J1_indexOfChar_4cfef_7 w) fu (nI n) ((nI b).toInt8.toInt32) (nI (i + 1)) σ := by
        generalize fx4 (f_J1_indexOfChar_4cfef_7 w) fu = kk
        unfold f_J1_indexOfChar_4cfef_7
        rw [if_neg (nI_ge (by omega) (by omega)), h1, ib_nI (show i < n by omega) (by omega), gd_true, nI_tn (by omega), c1, lt_eq, nI_1]
        have e := sx_eq hb c2
        by_cases q : b = L i
        · rw [if_pos (show nI (L i) = (nI b).toInt8.toInt32 from by rw [e]; exact q), if_pos q]
        · rw [if_neg (show ¬ nI (L i) = (nI b).toInt8.toInt32 from by rw [e]; exact q), if_neg q]
      rw [st]
      by_cases q : b = L i
      · rw [if_pos q]
        exact Or.inl ⟨i, by omega, q, hj, rfl⟩
      · rw [if_neg q]
        exact ih (i + 1) fu (by omega) (by omega) (fun j hj2 => by
          by_cases e : j = i
          · rw [e]; exact q
          · exact hj j (by omega))
  have hF : n < FU := Nat.lt_of_le_of_lt h3 (by decide)
  exact key n 0 FU (by omega) hF (fun j hj => by omega)
section LET
variable {t : Nat} {B : Nat → Nat}
theorem c_placeIn {w n : Nat} {L : Nat → Nat} (h : LW w n L) {σ : Mem} (hC : CB t B σ) {p : Nat} (hp : gI σ 40 2 = nI p) (hp2 : p ≤ 1000) : (∃ i, i < n ∧ p < t ∧ B p = L i ∧ (∀ j, j < i → B p ≠ L j) ∧ f_X6_placeIn w σ = some (nI i, σ)) ∨ ((∀ i, i < n → ¬ (p < t ∧ B p = L i)) ∧ f_X6_placeIn w σ = some (-1, σ)) := by
  have h5 := hC.2.2.2.2
  unfold f_X6_placeIn
  rw [decide_eq_true hC.2.2.1, gd_true, hp, c_at hC hp2, bd_some]
  by_cases q : p < t
  · have hb := h5 p q
    have ea : at_ t B p = nI (B p) := if_pos q
    rw [ea, if_pos (nI_pos' (by omega)), ch_u (by omega)]
    rcases c_index h (show B p < 256 by omega) σ with ⟨i, i1, i2, i3, i4⟩ | ⟨i1, i2⟩
    · rw [i4]
      exact Or.inl ⟨i, i1, q, i2, i3, rfl⟩
    · rw [i2]
      exact Or.inr ⟨fun i hi z => i1 i hi z.2, rfl⟩
  · have ea : at_ t B p = -1 := if_neg q
    rw [ea, if_neg (by decide)]
    exact Or.inr ⟨fun i hi z => q z.1, rfl⟩
theorem m_among {w n : Nat} {L : Nat → Nat} (h : LW w n L) {μ : Mem} (hC : MB t B μ) {p : Nat} (hp : gI μ 0 5 = nI p) (hp2 : p ≤ 1000) : (∃ i, i < n ∧ p < t ∧ B p = L i ∧ (∀ j, j < i → B p ≠ L j) ∧ f_X12_among w μ = some (nI i, sI μ 0 5 (nI (p + 1)))) ∨ ((∀ i, i < n → ¬ (p < t ∧ B p = L i)) ∧ f_X12_among w μ = some (-1, μ)) := by
  have h5 := hC.2.2.2
  have hh := h
  obtain ⟨h1, h2, h3, h4⟩ := h
  have key : ∀ m i fu : Nat, i + m = n → m < fu → (∀ j, j < i → ¬ (p < t ∧ B p = L j)) → ((∃ x, x < n ∧ p < t ∧ B p = L x ∧ (∀ j, j < x → B p ≠ L j) ∧ fx2 (f_X12_among_2 w) fu (nI i) μ = some (nI x, sI μ 0 5 (nI (p + 1)))) ∨ ((∀ x, x < n → ¬ (p < t ∧ B p = L x)) ∧ fx2 (f_X12_among_2 w) fu (nI i) μ = some (-1, μ))) := by
    intro m
    induction m with
    | zero =>
      intro i fu hi hf hj
      obtain ⟨fu, rfl⟩ : ∃ z, fu = z + 1 := ⟨fu - 1, by omega⟩
      have hi : i = n := by omega
      subst hi
      refine Or.inr ⟨hj, ?_⟩
      show f_X12_among_2 w _ _ _ = _
      unfold f_X12_among_2
      rw [len_w hh, bd_some, if_pos (nI_le (Nat.le_refl _) (by omega))]
    | succ m ih =>
      intro i fu hi hf hj
      obtain ⟨fu, rfl⟩ : ∃ z, fu = z + 1 := ⟨fu - 1, by omega⟩
      obtain ⟨c1, c2⟩ := h4 i (by omega)
      show (∃ x, x < n ∧ p < t ∧ B p = L x ∧ (∀ j, j < x → B p ≠ L j) ∧ f_X12_among_2 w (fx2 (f_X12_among_2 w) fu) _ _ = _) ∨ (_ ∧ f_X12_among_2 w (fx2 (f_X12_among_2 w) fu) _ _ = _)
      have st : f_X12_among_2 w (fx2 (f_X12_among_2 w) fu) (nI i) μ = if p < t ∧ B p = L i then some (nI i, sI μ 0 5 (nI (p + 1))) else fx2 (f_X12_among_2 w) fu (nI (i + 1)) μ := by
        generalize fx2 (f_X12_among_2 w) fu = kk
        unfold f_X12_among_2
        rw [len_w hh, bd_some, if_neg (nI_ge (by omega) (by omega)), m_here hC hp hp2, bd_some, charAt_ hh (by omega), bd_some, hp, nI_1, nI_1, lt_eq, lt_eq]
        have e := at_eq (p := p) h5 (show L i < 256 by omega)
        by_cases q : p < t ∧ B p = L i
        · rw [if_pos (show at_ t B p = nI (L i) from by rw [e]; exact q), if_pos q]
        · rw [if_neg (show ¬ at_ t B p = nI (L i) from by rw [e]; exact q), if_neg q]
      rw [st]
      by_cases q : p < t ∧ B p = L i
      · rw [if_pos q]
        exact Or.inl ⟨i, by omega, q.1, q.2, fun j hj2 z => hj j hj2 ⟨q.1, z⟩, rfl⟩
      · rw [if_neg q]
        exact ih (i + 1) fu (by omega) (by omega) (fun j hj2 => by
          by_cases e : j = i
          · rw [e]; exact q
          · exact hj j (by omega))
  have hF : n < FU := Nat.lt_of_le_of_lt h3 (by decide)
  exact key n 0 FU (by omega) hF (fun j hj => by omega)
end LET
/-! SEGMENTS OF CODE: bits of the class's stack -/
theorem nIxor (a b : Nat) : nI a ^^^ nI b = nI (a ^^^ b) := by
  apply Int32.toBitVec_inj.mp
  apply BitVec.eq_of_toNat_eq
  rw [Int32.toBitVec_xor, BitVec.toNat_xor]
  exact (Nat.xor_mod_two_pow (a := a) (b := b) (n := 32)).symm
def bn (b : Bool) : Nat := b.toNat
theorem bn_lt (b : Bool) : bn b < 2 := by cases b <;> decide
theorem tb0 (v : Nat) (b : Bool) : (2 * v + bn b).testBit 0 = b := by
  rw [Nat.testBit_zero]
  cases b
  · exact decide_eq_false (by show ¬ (2 * v + 0) % 2 = 1; omega)
  · exact decide_eq_true (by show (2 * v + 1) % 2 = 1; omega)
theorem tbs (v : Nat) (b : Bool) (i : Nat) : (2 * v + bn b).testBit (i + 1) = v.testBit i := by
  have := bn_lt b
  rw [Nat.testBit_succ, show (2 * v + bn b) / 2 = v by omega]
theorem st_not (v : Nat) (b : Bool) : (2 * v + bn b) ^^^ 1 = 2 * v + bn (!b) := by
  apply Nat.eq_of_testBit_eq
  intro i
  rw [Nat.testBit_xor]
  cases i with
  | zero =>
    rw [tb0, tb0]
    cases b <;> rfl
  | succ i =>
    rw [tbs, tbs, show (1 : Nat).testBit (i + 1) = false from by rw [Nat.testBit_succ]; simp]
    simp
theorem st_or (v : Nat) (b c : Bool) : (2 * v + bn b) ||| bn c = 2 * v + bn (b || c) := by
  apply Nat.eq_of_testBit_eq
  intro i
  rw [Nat.testBit_or]
  cases i with
  | zero =>
    rw [tb0, tb0]
    cases b <;> cases c <;> rfl
  | succ i =>
    rw [tbs, tbs, show (bn c).testBit (i + 1) = false from by rw [Nat.testBit_succ]; cases c <;> simp [bn]]
    simp
theorem st_and {v : Nat} (hv : v < 2 ^ 30) (b c : Bool) : (2 * v + bn b) &&& ((2 * (2 * v + bn b) + bn c) ||| (2 ^ 32 - 2)) = 2 * v + bn (b && c) := by
  have e2 : ∀ i, (2 ^ 32 - 2 : Nat).testBit i = (decide (i < 32) && !(1 : Nat).testBit i) := fun i => Nat.testBit_two_pow_sub_succ (x := 1) (n := 32) (by omega) i
  apply Nat.eq_of_testBit_eq
  intro i
  rw [Nat.testBit_and, Nat.testBit_or, e2]
  cases i with
  | zero =>
    rw [tb0, tb0, tb0]
    cases b <;> cases c <;> rfl
  | succ i =>
    rw [tbs, tbs, tbs, show (1 : Nat).testBit (i + 1) = false from by rw [Nat.testBit_succ]; simp]
    by_cases q : i + 1 < 32
    · rw [decide_eq_true q]
      simp
    · rw [Nat.testBit_lt_two_pow (Nat.lt_of_lt_of_le hv (Nat.pow_le_pow_right (by omega) (by omega)))]
      simp
