theorem law_end {L j : Nat} {x : Int32} (hL : L ≤ 448) (hj : 7 * j ≤ L) (h : L < 7 * j + 7) (ex : x = nI (7 * j)) : nI L - 7 < x := by
  subst ex
  have e1 : (nI L - nI 7).toInt = (L : Int) - (7 : Nat) := pk_sub_toInt (by omega) (by omega)
  have e2 : (nI (7 * j)).toInt = ((7 * j : Nat) : Int) := nI_toInt (by omega)
  show nI L - nI 7 < nI (7 * j)
  rw [Int32.lt_iff_toInt_lt, e1, e2]
  omega
theorem vp_in_add {j k L : Nat} (h : j + k < L) (hL : L ≤ 448) {x : Int32} (hx : nI j + x = nI (j + k)) : vp_in (nI j + x) L := by
  rw [hx]
  exact vp_in_nI h (by omega)
set_option maxHeartbeats 4000000 in
set_option maxRecDepth 100000 in
/-- the loop: with n calls left to count, at the script's place 7 j -/
theorem law_loop {Rel : Nat → Mem → Mem → Prop} (SF : LawSteps Rel) {p : Program} {l : Launch} {e : Env} {s : State} {m : MethodId} {below : List Frame} {meth : Method} {c : Code} {E1 E2 : EV} {b L : Nat} {xs : Nat → Int32} (hidle : ∀ (n : Nat) (σ μ : Mem), Rel (n + 1) σ μ → Rel n σ μ) (X : Lx E1 E2 p s m meth c b L xs) (hL : L ≤ 448) : ∀ (n j : Nat) (σ μ : Mem) (x3 : Int32) (H : Heap) (ls : Array Slot), 64 ≤ n + j → 7 * j ≤ L → x3 = nI (7 * j) → Rel n σ μ → Wd TC E1 σ s H [] → Wd TM E2 μ s H [] → lv_has ls 4 [(0, .ref b), (1, .ref (E1.2.1 0)), (2, .ref (E2.2.1 0)), (3, .int x3)] → W p l e room_1 s m #[Value.ref b] below meth c H [] 99 155119 (lw_Z below #[Value.ref b] s) (F0 m 18 ls []) := by
  obtain ⟨C1, C2, hX, hbl, hdis, hg1, hg2⟩ := id X
  have hx := C1.1
  have hb := C1.2.1
  intro n
  induction n with
  | zero =>
    intro j σ μ x3 H ls hn hj ex hR hw1 hw2 hl
    have hL7 : L < 7 * j + 7 := by omega
    refine lv_iload_n hx hb dL_law_18 rfl (lv_at hl 3 rfl) ?_
    refine lv_aload_n hx hb dL_law_19 rfl (lv_at hl 0 rfl) ?_
    refine va_slen hx hb hX hbl (fun z => Nat.not_le.mpr hbl (hg1 _ z)) hw1.2.2 dL_law_20 ?_
    refine lv_bipush (v := 7) hx hb dL_law_21 (by decide) ?_
    refine lv_isub hx hb dL_law_23 ?_
    refine lv_icmp_gt (tgt := 1160) hx hb dL_law_24 (by decide) (fun _ => ?_) (fun q => absurd (law_end hL hj hL7 ex) q)
    refine lv_iconst (v := 1) hx hb dL_law_1160 (by decide) ?_
    refine W.widen (k := 600000) (n := 7302250) (Nat.le_of_ble_eq_true rfl) (Nat.le_of_ble_eq_true rfl) ?_
    exact lw_ret hx hb C1.2.2.2.2.2.2.2.2 C1.2.2.2.2.2.2.2.1 dL_law_1161
  | succ n ih =>
    intro j σ μ x3 H ls hn hj ex hR hw1 hw2 hl
    refine lv_iload_n hx hb dL_law_18 rfl (lv_at hl 3 rfl) ?_
    refine lv_aload_n hx hb dL_law_19 rfl (lv_at hl 0 rfl) ?_
    refine va_slen hx hb hX hbl (fun z => Nat.not_le.mpr hbl (hg1 _ z)) hw1.2.2 dL_law_20 ?_
    refine lv_bipush (v := 7) hx hb dL_law_21 (by decide) ?_
    refine lv_isub hx hb dL_law_23 ?_
    refine lv_icmp_gt (tgt := 1160) hx hb dL_law_24 (by decide) (fun _ => ?_) (fun c7 => ?_)
    · refine lv_iconst (v := 1) hx hb dL_law_1160 (by decide) ?_
      refine W.widen (k := 600000) (n := 7302250) (Nat.le_of_ble_eq_true rfl) (Nat.le_of_ble_eq_true rfl) ?_
      exact lw_ret hx hb C1.2.2.2.2.2.2.2.2 C1.2.2.2.2.2.2.2.1 dL_law_1161
    · have hL7 : 7 * j + 7 ≤ L := by
        rcases Nat.lt_or_ge L (7 * j + 7) with q | q
        · exact absurd (law_end hL hj q ex) c7
        · exact q
      have hi : vp_in x3 L ∧ vp_in (x3 + 1) L ∧ vp_in (x3 + 2) L ∧ vp_in (x3 + 3) L ∧ vp_in (x3 + 4) L ∧ vp_in (x3 + 5) L ∧ vp_in (x3 + 6) L := by
        rw [ex]
        exact ⟨vp_in_nI (by omega) (by omega), vp_in_add (k := 1) (by omega) hL (nI_add _ 1), vp_in_add (k := 2) (by omega) hL (nI_add _ 2), vp_in_add (k := 3) (by omega) hL (nI_add _ 3), vp_in_add (k := 4) (by omega) hL (nI_add _ 4), vp_in_add (k := 5) (by omega) hL (nI_add _ 5), vp_in_add (k := 6) (by omega) hL (nI_add _ 6)⟩
      have hk : ∀ (σ μ : Mem) (H : Heap) (ls : Array Slot), Rel n σ μ → Wd TC E1 σ s H [] → Wd TM E2 μ s H [] → lv_has ls 4 [(0, .ref b), (1, .ref (E1.2.1 0)), (2, .ref (E2.2.1 0)), (3, .int x3)] → W p l e room_1 s m #[Value.ref b] below meth c H [] 99 155119 (lw_Z below #[Value.ref b] s) (F0 m 1154 ls []) := by
        intro σ μ H ls hR hw1 hw2 hl
        obtain ⟨x4, ex4⟩ : ∃ y : Int32, y = x3 + 7 := ⟨_, rfl⟩
        refine lv_iinc (v := x4) (lv' := [(3, .int x4), (0, .ref b), (1, .ref (E1.2.1 0)), (2, .ref (E2.2.1 0))]) hx hb dL_law_1154 hl (k := 3) rfl (by rw [ex4]; rfl) (by decide) rfl (fun ls hl => ?_)
        refine lv_goto (tgt := 18) hx hb dL_law_1157 (by decide) ?_
        exact ih (j + 1) σ μ x4 H ls (by omega) (by omega) (by rw [ex4, ex]; exact nI_add _ 7) hR hw1 hw2 (lv_sub hl [1, 2, 3, 0] rfl)
      refine lv_aload_n hx hb dL_law_27 rfl (lv_at hl 0 rfl) ?_
      refine lv_iload_n hx hb dL_law_28 rfl (lv_at hl 3 rfl) ?_
      refine va_sld hx hb hX hbl (fun z => Nat.not_le.mpr hbl (hg1 _ z)) hw1.2.2 hi.1 dL_law_29 ?_
      refine lv_bipush (v := 31) hx hb dL_law_30 (by decide) ?_
      refine lv_iand hx hb dL_law_32 ?_
      refine lv_topi (fun op eop => ?_)
      by_cases c0 : op = (0 : Int32)
      · refine lv_tableIn (off := 123) (tgt := 156) hx hb dL_law_33 (by rw [c0]; decide) (by rw [c0]; decide) (by rw [c0]; rfl) (by decide) ?_
        exact lc_0 SF X hi hR hw1 hw2 hl hk
      by_cases c1 : op = (1 : Int32)
      · refine lv_tableIn (off := 186) (tgt := 219) hx hb dL_law_33 (by rw [c1]; decide) (by rw [c1]; decide) (by rw [c1]; rfl) (by decide) ?_
        exact lc_1 SF X hi hR hw1 hw2 hl hk
      by_cases c2 : op = (2 : Int32)
      · refine lv_tableIn (off := 199) (tgt := 232) hx hb dL_law_33 (by rw [c2]; decide) (by rw [c2]; decide) (by rw [c2]; rfl) (by decide) ?_
        exact lc_2 SF X hi hR hw1 hw2 hl hk
      by_cases c3 : op = (3 : Int32)
      · refine lv_tableIn (off := 274) (tgt := 307) hx hb dL_law_33 (by rw [c3]; decide) (by rw [c3]; decide) (by rw [c3]; rfl) (by decide) ?_
        exact lc_3 SF X hi hR hw1 hw2 hl hk
      by_cases c4 : op = (4 : Int32)
      · refine lv_tableIn (off := 349) (tgt := 382) hx hb dL_law_33 (by rw [c4]; decide) (by rw [c4]; decide) (by rw [c4]; rfl) (by decide) ?_
        exact lc_4 SF X hi hR hw1 hw2 hl hk
      by_cases c5 : op = (5 : Int32)
      · refine lv_tableIn (off := 382) (tgt := 415) hx hb dL_law_33 (by rw [c5]; decide) (by rw [c5]; decide) (by rw [c5]; rfl) (by decide) ?_
        exact lc_5 SF X hi hR hw1 hw2 hl hk
      by_cases c6 : op = (6 : Int32)
      · refine lv_tableIn (off := 405) (tgt := 438) hx hb dL_law_33 (by rw [c6]; decide) (by rw [c6]; decide) (by rw [c6]; rfl) (by decide) ?_
        exact lc_6 SF X hi hR hw1 hw2 hl hk
      by_cases c7 : op = (7 : Int32)
      · refine lv_tableIn (off := 428) (tgt := 461) hx hb dL_law_33 (by rw [c7]; decide) (by rw [c7]; decide) (by rw [c7]; rfl) (by decide) ?_
        exact lc_7 SF X hi hR hw1 hw2 hl hk
      by_cases c8 : op = (8 : Int32)
      · refine lv_tableIn (off := 461) (tgt := 494) hx hb dL_law_33 (by rw [c8]; decide) (by rw [c8]; decide) (by rw [c8]; rfl) (by decide) ?_
        exact lc_8 SF X hi hR hw1 hw2 hl hk
      by_cases c9 : op = (9 : Int32)
      · refine lv_tableIn (off := 494) (tgt := 527) hx hb dL_law_33 (by rw [c9]; decide) (by rw [c9]; decide) (by rw [c9]; rfl) (by decide) ?_
        exact lc_9 SF X hi hR hw1 hw2 hl hk
      by_cases c10 : op = (10 : Int32)
      · refine lv_tableIn (off := 527) (tgt := 560) hx hb dL_law_33 (by rw [c10]; decide) (by rw [c10]; decide) (by rw [c10]; rfl) (by decide) ?_
        exact lc_10 SF X hi hR hw1 hw2 hl hk
      by_cases c11 : op = (11 : Int32)
      · refine lv_tableIn (off := 590) (tgt := 623) hx hb dL_law_33 (by rw [c11]; decide) (by rw [c11]; decide) (by rw [c11]; rfl) (by decide) ?_
        exact lc_11 SF X hi hR hw1 hw2 hl hk
      by_cases c12 : op = (12 : Int32)
      · refine lv_tableIn (off := 644) (tgt := 677) hx hb dL_law_33 (by rw [c12]; decide) (by rw [c12]; decide) (by rw [c12]; rfl) (by decide) ?_
        exact lc_12 SF X hi hR hw1 hw2 hl hk
      by_cases c13 : op = (13 : Int32)
      · refine lv_tableIn (off := 688) (tgt := 721) hx hb dL_law_33 (by rw [c13]; decide) (by rw [c13]; decide) (by rw [c13]; rfl) (by decide) ?_
        exact lc_13 SF X hi hR hw1 hw2 hl hk
      by_cases c14 : op = (14 : Int32)
      · refine lv_tableIn (off := 721) (tgt := 754) hx hb dL_law_33 (by rw [c14]; decide) (by rw [c14]; decide) (by rw [c14]; rfl) (by decide) ?_
        exact lc_14 SF X hi hR hw1 hw2 hl hk
      by_cases c15 : op = (15 : Int32)
      · refine lv_tableIn (off := 754) (tgt := 787) hx hb dL_law_33 (by rw [c15]; decide) (by rw [c15]; decide) (by rw [c15]; rfl) (by decide) ?_
        exact lc_15 SF X hi hR hw1 hw2 hl hk
      by_cases c16 : op = (16 : Int32)
      · refine lv_tableIn (off := 777) (tgt := 810) hx hb dL_law_33 (by rw [c16]; decide) (by rw [c16]; decide) (by rw [c16]; rfl) (by decide) ?_
        exact lc_16 SF X hi hR hw1 hw2 hl hk
      by_cases c17 : op = (17 : Int32)
      · refine lv_tableIn (off := 820) (tgt := 853) hx hb dL_law_33 (by rw [c17]; decide) (by rw [c17]; decide) (by rw [c17]; rfl) (by decide) ?_
        exact lc_17 SF X hi hR hw1 hw2 hl hk
      by_cases c18 : op = (18 : Int32)
      · refine lv_tableIn (off := 833) (tgt := 866) hx hb dL_law_33 (by rw [c18]; decide) (by rw [c18]; decide) (by rw [c18]; rfl) (by decide) ?_
        exact lc_18 SF X hi hR hw1 hw2 hl hk
      by_cases c19 : op = (19 : Int32)
      · refine lv_tableIn (off := 856) (tgt := 889) hx hb dL_law_33 (by rw [c19]; decide) (by rw [c19]; decide) (by rw [c19]; rfl) (by decide) ?_
        exact lc_19 SF X hi hR hw1 hw2 hl hk
      by_cases c20 : op = (20 : Int32)
      · refine lv_tableIn (off := 919) (tgt := 952) hx hb dL_law_33 (by rw [c20]; decide) (by rw [c20]; decide) (by rw [c20]; rfl) (by decide) ?_
        exact lc_20 SF X hi hR hw1 hw2 hl hk
      by_cases c21 : op = (21 : Int32)
      · refine lv_tableIn (off := 973) (tgt := 1006) hx hb dL_law_33 (by rw [c21]; decide) (by rw [c21]; decide) (by rw [c21]; rfl) (by decide) ?_
        exact lc_21 SF X hi hR hw1 hw2 hl hk
      by_cases c22 : op = (22 : Int32)
      · refine lv_tableIn (off := 1016) (tgt := 1049) hx hb dL_law_33 (by rw [c22]; decide) (by rw [c22]; decide) (by rw [c22]; rfl) (by decide) ?_
        exact lc_22 SF X hi hR hw1 hw2 hl hk
      by_cases c23 : op = (23 : Int32)
      · refine lv_tableIn (off := 1039) (tgt := 1072) hx hb dL_law_33 (by rw [c23]; decide) (by rw [c23]; decide) (by rw [c23]; rfl) (by decide) ?_
        exact lc_23 SF X hi hR hw1 hw2 hl hk
      by_cases c24 : op = (24 : Int32)
      · refine lv_tableIn (off := 1072) (tgt := 1105) hx hb dL_law_33 (by rw [c24]; decide) (by rw [c24]; decide) (by rw [c24]; rfl) (by decide) ?_
        exact lc_24 SF X hi hR hw1 hw2 hl hk
      by_cases c25 : op = (25 : Int32)
      · refine lv_tableIn (off := 1085) (tgt := 1118) hx hb dL_law_33 (by rw [c25]; decide) (by rw [c25]; decide) (by rw [c25]; rfl) (by decide) ?_
        exact lc_25 SF X hi hR hw1 hw2 hl hk
      by_cases c26 : op = (26 : Int32)
      · refine lv_tableIn (off := 1098) (tgt := 1131) hx hb dL_law_33 (by rw [c26]; decide) (by rw [c26]; decide) (by rw [c26]; rfl) (by decide) ?_
        exact lc_26 SF X hi hR hw1 hw2 hl hk
      refine lv_tableOut (tgt := 1154) hx hb dL_law_33 (tsw_out (fun k h1 h2 => by
        rcases (show k = 0 ∨ k = 1 ∨ k = 2 ∨ k = 3 ∨ k = 4 ∨ k = 5 ∨ k = 6 ∨ k = 7 ∨ k = 8 ∨ k = 9 ∨ k = 10 ∨ k = 11 ∨ k = 12 ∨ k = 13 ∨ k = 14 ∨ k = 15 ∨ k = 16 ∨ k = 17 ∨ k = 18 ∨ k = 19 ∨ k = 20 ∨ k = 21 ∨ k = 22 ∨ k = 23 ∨ k = 24 ∨ k = 25 ∨ k = 26 by omega) with rfl | rfl | rfl | rfl | rfl | rfl | rfl | rfl | rfl | rfl | rfl | rfl | rfl | rfl | rfl | rfl | rfl | rfl | rfl | rfl | rfl | rfl | rfl | rfl | rfl | rfl | rfl
        · exact c0
        · exact c1
        · exact c2
        · exact c3
        · exact c4
        · exact c5
        · exact c6
        · exact c7
        · exact c8
        · exact c9
        · exact c10
        · exact c11
        · exact c12
        · exact c13
        · exact c14
        · exact c15
        · exact c16
        · exact c17
        · exact c18
        · exact c19
        · exact c20
        · exact c21
        · exact c22
        · exact c23
        · exact c24
        · exact c25
        · exact c26)) (by decide) ?_
      exact hk σ μ H ls (hidle n σ μ hR) hw1 hw2 hl
