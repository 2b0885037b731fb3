/-! WHAT A CHANGE OF THE MODEL'S ROW LEAVES -/
theorem sTape_m {tp by_ s s' : Nat → Int32} (h : sTape tp by_ s) (e : ∀ j, j = 4 ∨ (11 ≤ j ∧ j < 131) → s' j = s j) : sTape tp by_ s' := by
  obtain ⟨h1, ⟨t, h2, h3, h4⟩, h5⟩ := h
  refine ⟨by rw [e 4 (by omega)]; exact h1, ⟨t, h2, by rw [e 4 (by omega)]; exact h3, fun j hj => ?_⟩, h5⟩
  rw [e (11 + j) (by omega)]
  exact h4 j hj
theorem sWinds_m {ch s s' : Nat → Int32} (h : sWinds ch s) (e : ∀ j, 851 ≤ j ∧ j < 887 → s' j = s j) : sWinds ch s' := by
  intro w hw
  obtain ⟨c, h1, h2⟩ := h w hw
  refine ⟨c, fun i hi => ?_, h2⟩
  rw [e (851 + 6 * w + i) (by omega)]
  exact h1 i hi
theorem sLed_m {ld s s' : Nat → Int32} {M : Nat} (h : sLed ld s M) (e : ∀ j, 5 ≤ j ∧ j < 11 → s' j = s j) : sLed ld s' M := by
  obtain ⟨h1, h2⟩ := h
  unfold sLed
  rw [e 5 (by omega), e 6 (by omega), e 7 (by omega), e 8 (by omega), e 10 (by omega)]
  exact ⟨fun i hi => by rw [e (5 + i) (by omega)]; exact h1 i hi, h2⟩
theorem sRules_m {rl kd vl rz rw_ s s' : Nat → Int32} (h : sRules rl kd vl rz rw_ s) (e : ∀ j, j = 1 ∨ (887 ≤ j ∧ j < 1017) → s' j = s j) : sRules rl kd vl rz rw_ s' := by
  obtain ⟨h1, R, h2, h3, h4⟩ := h
  refine ⟨by rw [e 1 (by omega)]; exact h1, R, h2, by rw [e 1 (by omega)]; exact h3, fun i hi => ?_⟩
  obtain ⟨g1, g2, g3, g4, g5, z, g6, g7, g8⟩ := h4 i hi
  rw [e (887 + i) (by omega), e (897 + i) (by omega), e (907 + i) (by omega)]
  refine ⟨g1, g2, g3, g4, g5, z, g6, g7, fun j hj => ?_⟩
  rw [e (917 + 10 * i + j) (by omega)]
  exact g8 j hj
theorem sDay_m {dy dw ds s s' : Nat → Int32} (h : sDay dy dw ds s) (e : ∀ j, j = 2 ∨ (1017 ≤ j ∧ j < 1037) → s' j = s j) : sDay dy dw ds s' := by
  obtain ⟨h1, D, h2, h3, h4⟩ := h
  refine ⟨by rw [e 2 (by omega)]; exact h1, D, h2, by rw [e 2 (by omega)]; exact h3, fun i hi => ?_⟩
  rw [e (1017 + i) (by omega), e (1027 + i) (by omega)]
  exact h4 i hi
theorem sOrders_m {od oh du pr tu s s' : Nat → Int32} (h : sOrders od oh du pr tu s) (e : ∀ j, j = 3 ∨ (1037 ≤ j ∧ j < 1055) → s' j = s j) : sOrders od oh du pr tu s' := by
  obtain ⟨h1, O, h2, h3, h', d, q, h4, h5⟩ := h
  refine ⟨by rw [e 3 (by omega)]; exact h1, O, h2, by rw [e 3 (by omega)]; exact h3, h', d, q, fun i hi => ?_, h5⟩
  rw [e (1037 + i) (by omega), e (1043 + i) (by omega), e (1049 + i) (by omega)]
  exact h4 i hi
theorem mGives_m {s s' : Nat → Int32} {k : Nat} {S : Nat → (Nat → Int32) → Nat} (h : mGives s k S) (hk : k < 5) (e : ∀ j, 131 ≤ j ∧ j < 851 → s' j = s j) : mGives s' k S := by
  intro τ h1 h2
  exact h τ (by rw [h1, e _ (by omega)]) (fun j hj => by rw [h2 j hj, e _ (by omega)])
theorem sMill_m {a : Nat → Nat → Int32} {s s' : Nat → Int32} {k : Nat} {A : Mil} (h : sMill a s k A) (hk : k < 5) (e : ∀ j, 131 ≤ j ∧ j < 851 → s' j = s j) : sMill a s' k A := by
  obtain ⟨h1, h2, h3, h4, h5, h6, h7, h8, h9, h10, h11, h12⟩ := h
  exact ⟨h1, h2, h3, h4, h5, h6, h7, by rw [e _ (by omega)]; exact h8, by rw [e _ (by omega)]; exact h9, by rw [e _ (by omega)]; exact h10, h11, mGives_m h12 hk e⟩
theorem sMills_m {a : Nat → Nat → Int32} {s s' : Nat → Int32} {M : Nat} {Am : Nat → Mil} (h : sMills a s M Am) (hM : M ≤ 5) (e : ∀ j, 131 ≤ j ∧ j < 851 → s' j = s j) : sMills a s' M Am := fun k hk => sMill_m (h k hk) (by omega) e
/-- the class's mills: what they need of the rows -/
theorem sMill_c {a a' : Nat → Nat → Int32} {s : Nat → Int32} {k : Nat} {A : Mil} (h : sMill a s k A) (e : ∀ j, 6 ≤ j → j ≤ 10 → a' (mo k) j = a (mo k) j) (e2 : ∀ i, 1 ≤ i → i ≤ 4 → a' (mo k + i) = a (mo k + i)) : sMill a' s k A := by
  obtain ⟨h1, h2, h3, h4, h5, h6, h7, h8, h9, h10, h11, h12⟩ := h
  refine ⟨h1, h2, h3, h4, by rw [e 8 (by omega) (by omega)]; exact h5, by rw [e 9 (by omega) (by omega)]; exact h6, by rw [e 10 (by omega) (by omega)]; exact h7, h8, h9, h10, ?_, h12⟩
  intro τ g1 g2
  exact h11 τ (fun k h6 h7 => by rw [g1 k h6 h7, e k h6 (by omega)]) (fun i hi hj => by rw [g2 i hi hj, e2 i hi hj])
theorem sMills_c {a a' : Nat → Nat → Int32} {s : Nat → Int32} {M : Nat} {Am : Nat → Mil} (h : sMills a s M Am) (hM : M ≤ 5) (e : ∀ c, 48 ≤ c → c < 83 → a' c = a c) : sMills a' s M Am := fun k hk => sMill_c (h k hk) (fun j _ _ => by rw [e _ (by unfold mo; omega) (by unfold mo; omega)]) (fun i _ _ => e _ (by unfold mo; omega) (by unfold mo; omega))
theorem cHours_c {a a' : Nat → Nat → Int32} {k : Nat} {A : Mil} (h : cHours a k A) (hk : k < 5) (e : ∀ c, 48 ≤ c → c < 83 → a' c = a c) : cHours a' k A := by
  intro w st h' d h1 h2 h3 h4
  rw [e _ (by unfold mo; omega) (by unfold mo; omega)]
  exact h w st h' d h1 h2 h3 h4
/-- the image's part: what it needs of the rows -/
theorem sAll_c {a a' : Nat → Nat → Int32} {B M : Nat} {s : Nat → Int32} {Am : Nat → Mil} (h : sAll a B s M Am) (e : ∀ c, B ≤ c → c < B + 19 → a' c = a c) (e2 : ∀ c, 48 ≤ c → c < 83 → a' c = a c) : sAll a' B s M Am := by
  obtain ⟨h1, h2, h3, h4, h5, h6, h7, h8, h9, h10⟩ := h
  refine ⟨h1, by rw [e B (by omega) (by omega)]; exact h2, h3, ?_, ?_, ?_, ?_, ?_, ?_, sMills_c h10 h1 e2⟩
  · rw [e (B + 1) (by omega) (by omega), e (B + 2) (by omega) (by omega)]; exact h4
  · rw [e (B + 4) (by omega) (by omega)]; exact h5
  · rw [e (B + 5) (by omega) (by omega)]; exact h6
  · rw [e (B + 6) (by omega) (by omega), e (B + 7) (by omega) (by omega), e (B + 8) (by omega) (by omega), e (B + 9) (by omega) (by omega), e (B + 10) (by omega) (by omega)]; exact h7
  · rw [e (B + 11) (by omega) (by omega), e (B + 12) (by omega) (by omega), e (B + 13) (by omega) (by omega)]; exact h8
  · rw [e (B + 14) (by omega) (by omega), e (B + 15) (by omega) (by omega), e (B + 16) (by omega) (by omega), e (B + 17) (by omega) (by omega), e (B + 18) (by omega) (by omega)]; exact h9
