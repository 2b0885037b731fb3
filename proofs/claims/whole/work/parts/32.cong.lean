/-! WHAT A CHANGE OF THE MODEL'S ROW LEAVES -/
theorem sTape_m {tp by_ s s' : Nat → Int32} (h : sTape tp by_ s) (e : ∀ j, j = 4 ∨ (11 ≤ j ∧ j < 131) → s' j = s j) : sTape tp by_ s' := by
  obtain ⟨h1, ⟨t, h2, h3, h4⟩, h5⟩ := h
  refine ⟨by rw [e 4 (by omega)]; exact h1, ⟨t, h2, by rw [e 4 (by omega)]; exact h3, fun j hj => ?_⟩, h5⟩
  rw [e (11 + j) (by omega)]
  exact h4 j hj
theorem sWinds_m {ch s s' : Nat → Int32} (h : sWinds ch s) (e : ∀ j, 851 ≤ j ∧ j < 887 → s' j = s j) : sWinds ch s' := by
  intro w hw
  obtain ⟨c, h1, h2⟩ := h w hw
  refine ⟨c, fun i hi => ?_, h2⟩
  rw [e (851 + 6 * w + i) (by omega)]
  exact h1 i hi
theorem sLed_m {ld s s' : Nat → Int32} {M : Nat} (h : sLed ld s M) (e : ∀ j, 5 ≤ j ∧ j < 11 → s' j = s j) : sLed ld s' M := by
  obtain ⟨h1, h2⟩ := h
  unfold sLed
  rw [e 5 (by omega), e 6 (by omega), e 7 (by omega), e 8 (by omega), e 10 (by omega)]
  exact ⟨fun i hi => by rw [e (5 + i) (by omega)]; exact h1 i hi, h2⟩
theorem sRules_m {rl kd vl rz rw_ s s' : Nat → Int32} (h : sRules rl kd vl rz rw_ s) (e : ∀ j, j = 1 ∨ (887 ≤ j ∧ j < 1017) → s' j = s j) : sRules rl kd vl rz rw_ s' := by
  obtain ⟨h1, R, h2, h3, h4⟩ := h
  refine ⟨by rw [e 1 (by omega)]; exact h1, R, h2, by rw [e 1 (by omega)]; exact h3, fun i hi => ?_⟩
  obtain ⟨g1, g2, g3, g4, g5, z, g6, g7, g8⟩ := h4 i hi
  rw [e (887 + i) (by omega), e (897 + i) (by omega), e (907 + i) (by omega)]
  refine ⟨g1, g2, g3, g4, g5, z, g6, g7, fun j hj => ?_⟩
  rw [e (917 + 10 * i + j) (by omega)]
  exact g8 j hj
theorem sDay_m {dy dw ds s s' : Nat → Int32} (h : sDay dy dw ds s) (e : ∀ j, j = 2 ∨ (1017 ≤ j ∧ j < 1037) → s' j = s j) : sDay dy dw ds s' := by
  obtain ⟨h1, D, h2, h3, h4⟩ := h
  refine ⟨by rw [e 2 (by omega)]; exact h1, D, h2, by rw [e 2 (by omega)]; exact h3, fun i hi => ?_⟩
  rw [e (1017 + i) (by omega), e (1027 + i) (by omega)]
  exact h4 i hi
theorem sOrders_m {od oh du pr tu s s' : Nat → Int32} (h : sOrders od oh du pr tu s) (e : ∀ j, j = 3 ∨ (1037 ≤ j ∧ j < 1055) → s' j = s j) : sOrders od oh du pr tu s' := by
  obtain ⟨h1, O, h2, h3, h', d, q, h4, h5⟩ := h
  refine ⟨by rw [e 3 (by omega)]; exact h1, O, h2, by rw [e 3 (by omega)]; exact h3, h', d, q, fun i hi => ?_, h5⟩
  rw [e (1037 + i) (by omega), e (1043 + i) (by omega), e (1049 + i) (by omega)]
  exact h4 i hi
theorem mGives_m {s s' : Nat → Int32} {k : Nat} {S : Nat → (Nat → Int32) → Nat} (h : mGives s k S) (hk : k < 5) (e : ∀ j, 131 ≤ j ∧ j < 851 → s' j = s j) : mGives s' k S := by
  intro τ h1 h2
  exact h τ (by rw [h1, e _ (by omega)]) (fun j hj => by rw [h2 j hj, e _ (by omega)])
theorem sMill_m {a : Nat → Nat → Int32} {s s' : Nat → Int32} {k : Nat} {A : Mil} (h : sMill a s k A) (hk : k < 5) (e : ∀ j, 131 ≤ j ∧ j < 851 → s' j = s j) : sMill a s' k A := by
  obtain ⟨h1, h2, h3, h4, h5, h6, h7, h8, h9, h10, h11, h12⟩ := h
  exact ⟨h1, h2, h3, h4, h5, h6, h7, by rw [e _ (by omega)]; exact h8, by rw [e _ (by omega)]; exact h9, by rw [e _ (by omega)]; exact h10, h11, mGives_m h12 hk e⟩
theorem sMills_m {a : Nat → Nat → Int32} {s s' : Nat → Int32} {M : Nat} {Am : Nat → Mil} (h : sMills a s M Am) (hM : M ≤ 5) (e : ∀ j, 131 ≤ j ∧ j < 851 → s' j = s j) : sMills a s' M Am := fun k hk => sMill_m (h k hk) (by omega) e
/-- the class's mills: what they need of the rows -/
theorem sMill_c {a a' : Nat → Nat → Int32} {s : Nat → Int32} {k : Nat} {A : Mil} (h : sMill a s k A) (e : ∀ j, 6 ≤ j → j ≤ 10 → a' (mo k) j = a (mo k) j) (e2 : ∀ i, 1 ≤ i → i ≤ 4 → a' (mo k + i) = a (mo k + i)) : sMill a' s k A := by
  obtain ⟨h1, h2, h3, h4, h5, h6, h7, h8, h9, h10, h11, h12⟩ := h
  refine ⟨h1, h2, h3, h4, by rw [e 8 (by omega) (by omega)]; exact h5, by rw [e 9 (by omega) (by omega)]; exact h6, by rw [e 10 (by omega) (by omega)]; exact h7, h8, h9, h10, ?_, h12⟩
  intro τ g1 g2
  exact h11 τ (fun k h6 h7 => by rw [g1 k h6 h7, e k h6 (by omega)]) (fun i hi hj => by rw [g2 i hi hj, e2 i hi hj])
theorem sMills_c {a a' : Nat → Nat → Int32} {s : Nat → Int32} {M : Nat} {Am : Nat → Mil} (h : sMills a s M Am) (hM : M ≤ 5) (e : ∀ c, 48 ≤ c → c < 83 → a' c = a c) : sMills a' s M Am := fun k hk => sMill_c (h k hk) (fun j _ _ => by rw [e _ (by unfold mo; omega) (by unfold mo; omega)]) (fun i _ _ => e _ (by unfold mo; omega) (by unfold mo; omega))
theorem cHours_c {a a' : Nat → Nat → Int32} {k : Nat} {A : Mil} (h : cHours a k A) (hk : k < 5) (e : ∀ c, 48 ≤ c → c < 83 → a' c = a c) : cHours a' k A := by
  intro w st h' d h1 h2 h3 h4
  rw [e _ (by unfold mo; omega) (by unfold mo; omega)]
  exact h w st h' d h1 h2 h3 h4
/-- the image's part: what it needs of the rows -/
theorem sAll_c {a a' : Nat → Nat → Int32} {B M : Nat} {s : Nat → Int32} {Am : Nat → Mil} (h : sAll a B s M Am) (e : ∀ c, B ≤ c → c < B + 19 → a' c = a c) (e2 : ∀ c, 48 ≤ c → c < 83 → a' c = a c) : sAll a' B s M Am := by
  obtain ⟨h1, h2, h3, h4, h5, h6, h7, h8, h9, h10⟩ := h
  refine ⟨h1, by rw [e B (by omega) (by omega)]; exact h2, h3, ?_, ?_, ?_, ?_, ?_, ?_, sMills_c h10 h1 e2⟩
  · rw [e (B + 1) (by omega) (by omega), e (B + 2) (by omega) (by omega)]; exact h4
  · rw [e (B + 4) (by omega) (by omega)]; exact h5
  · rw [e (B + 5) (by omega) (by omega)]; exact h6
  · rw [e (B + 6) (by omega) (by omega), e (B + 7) (by omega) (by omega), e (B + 8) (by omega) (by omega), e (B + 9) (by omega) (by omega), e (B + 10) (by omega) (by omega)]; exact h7
  · rw [e (B + 11) (by omega) (by omega), e (B + 12) (by omega) (by omega), e (B + 13) (by omega) (by omega)]; exact h8
  · rw [e (B + 14) (by omega) (by omega), e (B + 15) (by omega) (by omega), e (B + 16) (by omega) (by omega), e (B + 17) (by omega) (by omega), e (B + 18) (by omega) (by omega)]; exact h9
theorem chN_m {s s' : Nat → Int32} (e : ∀ j, 851 ≤ j ∧ j < 887 → s' j = s j) : chN s' = chN s := by
  funext w i
  unfold chN
  split
  · rename_i h
    rw [e _ (by omega)]
  · rfl
theorem rMs_up {b b' : Nat → Nat → Int32} {c c' : Nat} (h : rMs b c) (hc : c ≤ c') (e1 : b' 0 25 = b 0 25) (e2 : b' 0 26 = b 0 26) (e3 : b' 5 = b 5) (e4 : b' 10 = b 10) (e5 : b' 11 = b 11) : rMs b' c' := by
  obtain ⟨J, K, h1, h2, h3, h4, h5, h6, h7⟩ := h
  exact ⟨J, K, by omega, by omega, by rw [e1]; exact h3, by rw [e2]; exact h4, by rw [e3]; exact h5, by rw [e4]; exact h6, by rw [e5]; exact h7⟩
theorem rPl_up {a a' : Nat → Nat → Int32} {s s' : Nat → Int32} {M : Nat} {Am : Nat → Mil} {c c' : Nat} (h : rPl a s M Am c) (hc : c ≤ c') (e1 : a' 41 4 = a 41 4) (e2 : a' 41 5 = a 41 5) (e3 : a' 42 = a 42) (e4 : a' 43 = a 43) (e5 : a' 45 = a 45) (e6 : ∀ j, j = 5 ∨ (851 ≤ j ∧ j < 887) → s' j = s j) : rPl a' s' M Am c' := by
  obtain ⟨J, K, h1, h2, h3, h4, h5, h6, h7, h8, h9⟩ := h
  refine ⟨J, K, h1, by omega, h3, by omega, by rw [e1]; exact h5, by rw [e2]; exact h6, by rw [e4]; exact h7, by rw [e5]; exact h8, fun k hk hs => ?_⟩
  rw [e6 5 (by omega)] at hs
  rw [chN_m (fun j hj => e6 j (Or.inr hj))]
  intro n w h d g1 g2 g3 g4 g5 g6
  rw [e3]
  exact h9 k hk hs n w h d g1 g2 g3 g4 g5 (by rw [← e4]; exact g6)
/-- what is known of best holds no more -/
theorem rPl_fg {a a' : Nat → Nat → Int32} {s s' : Nat → Int32} {M M' : Nat} {Am Am' : Nat → Mil} {c c' : Nat} (h : rPl a s M Am c) (hc : c + 1 ≤ c') (hc2 : c' ≤ 64) (e1 : a' 41 4 = a 41 4 + 1) (e2 : a' 41 5 = a 41 5) (e4 : a' 43 = a 43) (e5 : a' 45 = a 45) : rPl a' s' M' Am' c' := by
  obtain ⟨J, K, h1, h2, h3, h4, h5, h6, h7, h8, h9⟩ := h
  refine ⟨J + 1, K, by omega, by omega, h3, by omega, by rw [e1, h5]; exact nI_1 J, by rw [e2]; exact h6, fun i hi => by rw [e4]; exact le_mono (h7 i hi) (by omega), by rw [e5]; exact h8, fun k hk hs => ?_⟩
  intro n w h d g1 g2 g3 g4 g5 g6
  exfalso
  rw [e4] at g6
  obtain ⟨j, hj, ej⟩ := h7 (((n * 6 + w) * 10 + h) * 10 + d) (by omega)
  rw [ej] at g6
  have := nI_inj (by omega) (by omega) g6
  omega
theorem rAc_same {a a' b b' : Nat → Nat → Int32} (h : rAc a b) (e1 : a' 46 1 = a 46 1) (e2 : a' 47 = a 47) (e3 : b' 0 35 = b 0 35) (e4 : b' 15 = b 15) : rAc a' b' := by
  obtain ⟨r, h1, h2, h3, h4⟩ := h
  exact ⟨r, h1, by rw [e1]; exact h2, by rw [e3]; exact h3, by rw [e2, e4]; exact h4⟩
/-- the image's side of the relation -/
def rIm (a b : Nat → Nat → Int32) (M : Nat) (Am : Nat → Mil) : Prop := (a 0 6 = 0 ∧ b 0 3 = 0) ∨ (a 0 6 = 1 ∧ b 0 3 = 1 ∧ ∃ Mi, Mi ≤ M ∧ sAll a 21 (b 2) Mi Am)
theorem rIm_c {a a' b b' : Nat → Nat → Int32} {M M' : Nat} {Am : Nat → Mil} (h : rIm a b M Am) (hM : M ≤ M') (e0 : a' 0 6 = a 0 6) (e1 : b' 0 3 = b 0 3) (e2 : b' 2 = b 2) (e3 : ∀ c, 21 ≤ c → c < 40 → a' c = a c) (e4 : ∀ c, 48 ≤ c → c < 83 → a' c = a c) : rIm a' b' M' Am := by
  unfold rIm
  rw [e0, e1, e2]
  rcases h with h | ⟨h1, h2, Mi, h3, h4⟩
  · exact Or.inl h
  · exact Or.inr ⟨h1, h2, Mi, by omega, sAll_c h4 e3 e4⟩
