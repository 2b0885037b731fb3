def f_X10_chanceOf (p1 : Int32) (p2 : Int32) (σ : Mem) : Option (Int32 × Mem) :=
  lt ((p1 * (6 : Int32)) + p2) fun x3_1 =>
  if x3_1 < 0 then
    (some ((0 : Int32), σ))
  else
    if (36 : Int32) ≤ x3_1 then
      (some ((0 : Int32), σ))
    else
      gd (ib x3_1 36) <|
      some (gI σ 6 x3_1.toNatClampNeg, σ)
set_option maxHeartbeats 4000000 in
set_option maxRecDepth 100000 in
theorem m_X10_chanceOf (l : Launch) (E : EV) (p1 : Int32) (p2 : Int32) (σ : Mem) (rr : Int32) (τ : Mem) (h : f_X10_chanceOf p1 p2 σ = some (rr, τ)) : MI TC l E yX10_chanceOf cX10_chanceOf 4 (some .int) 0 0 [.ref (E.2.1 (5)), .int p1, .int p2] σ rr τ := by
  refine mt_start RX10 (by decide +kernel) rfl (Nat.le_of_ble_eq_true rfl) (fun p e s m args below meth c ls C hw hl => ?_)
  replace hl : lv_has ls 4 [(0, .ref (E.2.1 (5))), (1, .int p1), (2, .int p2)] := hl
  obtain ⟨hx, hb, hml, hown, hts, hK, hSt, hlk, hr⟩ := id C
  unfold f_X10_chanceOf at h
  refine lv_iload_n hx hb dX10_chanceOf_0 rfl (lv_at hl 1 rfl) ?_
  refine lv_bipush (v := 6) hx hb dX10_chanceOf_1 (by decide) ?_
  refine lv_imul hx hb dX10_chanceOf_3 ?_
  refine lv_iload_n hx hb dX10_chanceOf_4 rfl (lv_at hl 2 rfl) ?_
  refine lv_iadd hx hb dX10_chanceOf_5 ?_
  obtain ⟨x3_1, ex3_1, h⟩ := lt_at h
  refine q_top ex3_1 ?_
  refine lv_istore_n (lv' := [(3, .int x3_1), (0, .ref (E.2.1 (5))), (1, .int p1), (2, .int p2)]) hx hb dX10_chanceOf_6 rfl hl (by decide) rfl (fun ls hl => ?_)
  refine lv_iload_n hx hb dX10_chanceOf_7 rfl (lv_at hl 0 rfl) ?_
  refine lv_if_lt (tgt := 29) hx hb dX10_chanceOf_8 (by decide) (fun c_2 => ?_) (fun c_2 => ?_)
  · replace h := it_at h c_2
    refine lv_iconst (v := 0) hx hb dX10_chanceOf_29 (by decide) ?_
    obtain ⟨rfl, rfl⟩ := ret_at h
    exact q_iret C hw dX10_chanceOf_30
  · replace h := ie_at h c_2
    refine lv_iload_n hx hb dX10_chanceOf_11 rfl (lv_at hl 0 rfl) ?_
    refine lv_aload_n hx hb dX10_chanceOf_12 rfl (lv_at hl 1 rfl) ?_
    refine gf_10_0 C hw tC_5 kw_135 (c1 := 6) rfl dX10_chanceOf_13 ?_
    refine q_alen C hw tC_6 (v := 36) rfl dX10_chanceOf_16 ?_
    refine lv_icmp_ge (tgt := 29) hx hb dX10_chanceOf_17 (by decide) (fun c_3 => ?_) (fun c_3 => ?_)
    · replace h := it_at h c_3
      refine lv_iconst (v := 0) hx hb dX10_chanceOf_29 (by decide) ?_
      obtain ⟨rfl, rfl⟩ := ret_at h
      exact q_iret C hw dX10_chanceOf_30
    · replace h := ie_at h c_3
      refine lv_aload_n hx hb dX10_chanceOf_20 rfl (lv_at hl 1 rfl) ?_
      refine gf_10_0 C hw tC_5 kw_135 (c1 := 6) rfl dX10_chanceOf_21 ?_
      refine lv_iload_n hx hb dX10_chanceOf_24 rfl (lv_at hl 0 rfl) ?_
      obtain ⟨g_4, h⟩ := gd_at h
      refine q_iald C hw tC_6 g_4 dX10_chanceOf_25 ?_
      refine lv_goto (tgt := 30) hx hb dX10_chanceOf_26 (by decide) ?_
      obtain ⟨rfl, rfl⟩ := ret_at h
      exact q_iret C hw dX10_chanceOf_30
def f_X10_copyFroma (σ : Mem) : Option Mem :=
  lt (cpI σ 25 6 36) fun σ_1 =>
  some σ_1
set_option maxHeartbeats 4000000 in
set_option maxRecDepth 100000 in
theorem m_X10_copyFroma (l : Launch) (E : EV) (σ : Mem) (τ : Mem) (h : f_X10_copyFroma  σ = some τ) : MV TC l E yX10_copyFrom cX10_copyFrom 2 none 1 60 [.ref (E.2.1 (5)), .ref (E.2.1 (24))] σ τ := by
  refine mt_start RX10 (by decide +kernel) rfl (Nat.le_of_ble_eq_true rfl) (fun p e s m args below meth c ls C hw hl => ?_)
  replace hl : lv_has ls 2 [(0, .ref (E.2.1 (5))), (1, .ref (E.2.1 (24)))] := hl
  obtain ⟨hx, hb, hml, hown, hts, hK, hSt, hlk, hr⟩ := id C
  unfold f_X10_copyFroma at h
  refine lv_aload_n hx hb dX10_copyFrom_0 rfl (lv_at hl 1 rfl) ?_
  refine gf_10_0 C hw tC_24 kw_135 (c1 := 25) rfl dX10_copyFrom_1 ?_
  refine lv_iconst (v := 0) hx hb dX10_copyFrom_4 (by decide) ?_
  refine lv_aload_n hx hb dX10_copyFrom_5 rfl (lv_at hl 0 rfl) ?_
  refine gf_10_0 C hw tC_5 kw_135 (c1 := 6) rfl dX10_copyFrom_6 ?_
  refine lv_iconst (v := 0) hx hb dX10_copyFrom_9 (by decide) ?_
  refine lv_aload_n hx hb dX10_copyFrom_10 rfl (lv_at hl 0 rfl) ?_
  refine gf_10_0 C hw tC_5 kw_135 (c1 := 6) rfl dX10_copyFrom_11 ?_
  refine q_alen C hw tC_6 (v := 36) rfl dX10_copyFrom_14 ?_
  obtain ⟨σ_1, eσ_1, h⟩ := lt_at h
  refine q_copy C hw hl.1 kw_985 (Nat.le_of_ble_eq_true rfl) (Nat.le_of_ble_eq_true (by rfl)) (Nat.le_of_ble_eq_true rfl) tC_25 tC_6 rfl (by decide) eσ_1 dX10_copyFrom_15 (fun H locs hw => ?_)
  cases h
  exact q_vret C hw dX10_copyFrom_18
def f_X10_copyFromb (σ : Mem) : Option Mem :=
  lt (cpI σ 6 25 36) fun σ_1 =>
  some σ_1
set_option maxHeartbeats 4000000 in
set_option maxRecDepth 100000 in
theorem m_X10_copyFromb (l : Launch) (E : EV) (σ : Mem) (τ : Mem) (h : f_X10_copyFromb  σ = some τ) : MV TC l E yX10_copyFrom cX10_copyFrom 2 none 1 60 [.ref (E.2.1 (24)), .ref (E.2.1 (5))] σ τ := by
  refine mt_start RX10 (by decide +kernel) rfl (Nat.le_of_ble_eq_true rfl) (fun p e s m args below meth c ls C hw hl => ?_)
  replace hl : lv_has ls 2 [(0, .ref (E.2.1 (24))), (1, .ref (E.2.1 (5)))] := hl
  obtain ⟨hx, hb, hml, hown, hts, hK, hSt, hlk, hr⟩ := id C
  unfold f_X10_copyFromb at h
  refine lv_aload_n hx hb dX10_copyFrom_0 rfl (lv_at hl 1 rfl) ?_
  refine gf_10_0 C hw tC_5 kw_135 (c1 := 6) rfl dX10_copyFrom_1 ?_
  refine lv_iconst (v := 0) hx hb dX10_copyFrom_4 (by decide) ?_
  refine lv_aload_n hx hb dX10_copyFrom_5 rfl (lv_at hl 0 rfl) ?_
  refine gf_10_0 C hw tC_24 kw_135 (c1 := 25) rfl dX10_copyFrom_6 ?_
  refine lv_iconst (v := 0) hx hb dX10_copyFrom_9 (by decide) ?_
  refine lv_aload_n hx hb dX10_copyFrom_10 rfl (lv_at hl 0 rfl) ?_
  refine gf_10_0 C hw tC_24 kw_135 (c1 := 25) rfl dX10_copyFrom_11 ?_
  refine q_alen C hw tC_25 (v := 36) rfl dX10_copyFrom_14 ?_
  obtain ⟨σ_1, eσ_1, h⟩ := lt_at h
  refine q_copy C hw hl.1 kw_985 (Nat.le_of_ble_eq_true rfl) (Nat.le_of_ble_eq_true (by rfl)) (Nat.le_of_ble_eq_true rfl) tC_6 tC_25 rfl (by decide) eσ_1 dX10_copyFrom_15 (fun H locs hw => ?_)
  cases h
  exact q_vret C hw dX10_copyFrom_18
def f_X10_follow (p1 : Int32) (p2 : Int32) (p3 : Int32) (σ : Mem) : Option Mem :=
  lt ((p1 * (6 : Int32)) + p2) fun x4_1 =>
  if x4_1 < 0 then
    (some σ)
  else
    if (36 : Int32) ≤ x4_1 then
      (some σ)
    else
      gd (ib x4_1 36) <|
      lt (sI σ 6 x4_1.toNatClampNeg p3) fun σ_4 =>
      some σ_4
set_option maxHeartbeats 4000000 in
set_option maxRecDepth 100000 in
theorem m_X10_follow (l : Launch) (E : EV) (p1 : Int32) (p2 : Int32) (p3 : Int32) (σ : Mem) (τ : Mem) (h : f_X10_follow p1 p2 p3 σ = some τ) : MV TC l E yX10_follow cX10_follow 5 none 0 0 [.ref (E.2.1 (5)), .int p1, .int p2, .int p3] σ τ := by
  refine mt_start RX10 (by decide +kernel) rfl (Nat.le_of_ble_eq_true rfl) (fun p e s m args below meth c ls C hw hl => ?_)
  replace hl : lv_has ls 5 [(0, .ref (E.2.1 (5))), (1, .int p1), (2, .int p2), (3, .int p3)] := hl
  obtain ⟨hx, hb, hml, hown, hts, hK, hSt, hlk, hr⟩ := id C
  unfold f_X10_follow at h
  refine lv_iload_n hx hb dX10_follow_0 rfl (lv_at hl 1 rfl) ?_
  refine lv_bipush (v := 6) hx hb dX10_follow_1 (by decide) ?_
  refine lv_imul hx hb dX10_follow_3 ?_
  refine lv_iload_n hx hb dX10_follow_4 rfl (lv_at hl 2 rfl) ?_
  refine lv_iadd hx hb dX10_follow_5 ?_
  obtain ⟨x4_1, ex4_1, h⟩ := lt_at h
  refine q_top ex4_1 ?_
  refine lv_istore (lv' := [(4, .int x4_1), (0, .ref (E.2.1 (5))), (1, .int p1), (2, .int p2), (3, .int p3)]) hx hb dX10_follow_6 hl (by decide) rfl (fun ls hl => ?_)
  refine lv_iload hx hb dX10_follow_8 (lv_at hl 0 rfl) ?_
  refine lv_if_lt (tgt := 31) hx hb dX10_follow_10 (by decide) (fun c_2 => ?_) (fun c_2 => ?_)
  · replace h := it_at h c_2
    cases h
    exact q_vret C hw dX10_follow_31
  · replace h := ie_at h c_2
    refine lv_iload hx hb dX10_follow_13 (lv_at hl 0 rfl) ?_
    refine lv_aload_n hx hb dX10_follow_15 rfl (lv_at hl 1 rfl) ?_
    refine gf_10_0 C hw tC_5 kw_135 (c1 := 6) rfl dX10_follow_16 ?_
    refine q_alen C hw tC_6 (v := 36) rfl dX10_follow_19 ?_
    refine lv_icmp_ge (tgt := 31) hx hb dX10_follow_20 (by decide) (fun c_3 => ?_) (fun c_3 => ?_)
    · replace h := it_at h c_3
      cases h
      exact q_vret C hw dX10_follow_31
    · replace h := ie_at h c_3
      refine lv_aload_n hx hb dX10_follow_23 rfl (lv_at hl 1 rfl) ?_
      refine gf_10_0 C hw tC_5 kw_135 (c1 := 6) rfl dX10_follow_24 ?_
      refine lv_iload hx hb dX10_follow_27 (lv_at hl 0 rfl) ?_
      refine lv_iload_n hx hb dX10_follow_29 rfl (lv_at hl 4 rfl) ?_
      obtain ⟨g_5, h⟩ := gd_at h
      obtain ⟨σ_4, eσ_4, h⟩ := lt_at h
      refine q_iast C hw tC_6 g_5 eσ_4 dX10_follow_30 (fun H locs hw => ?_)
      cases h
      exact q_vret C hw dX10_follow_31
def f_X10_nextBy_48 (k8 : Int32 → Int32 → Int32 → Int32 → Int32 → Mem → Option (Int32 × Mem)) (x1 : Int32) (x2 : Int32) (x3 : Int32) (x4 : Int32) (x5 : Int32) (σ : Mem) : Option (Int32 × Mem) :=
  lt (x5 + (1 : Int32)) fun x5_8 =>
  k8 x1 x2 x3 x4 x5_8 σ
def f_X10_nextBy_8 (k8 : Int32 → Int32 → Int32 → Int32 → Int32 → Mem → Option (Int32 × Mem)) (x1 : Int32) (x2 : Int32) (x3 : Int32) (x4 : Int32) (x5 : Int32) (σ : Mem) : Option (Int32 × Mem) :=
  if (6 : Int32) ≤ x5 then
    (some (x3, σ))
  else
    bd (f_X10_chanceOf x1 x5 σ) fun r_2 σ_3 =>
    lt (x4 + r_2) fun x4_5 =>
    if x4_5 ≤ x2 then
      (if r_2 ≤ 0 then
        (f_X10_nextBy_48 k8 x1 x2 x3 x4_5 x5 σ_3)
      else
        f_X10_nextBy_48 k8 x1 x2 x5 x4_5 x5 σ_3)
    else
      some (x5, σ_3)
def f_X10_nextBy (p1 : Int32) (p2 : Int32) (σ : Mem) : Option (Int32 × Mem) :=
  fx6 (f_X10_nextBy_8) FU p1 p2 p1 (0 : Int32) (0 : Int32) σ
set_option maxHeartbeats 4000000 in
set_option maxRecDepth 100000 in
theorem w_X10_nextBy_48 {p : Program} {l : Launch} {e : Env} {s : State} {m : MethodId} {args : Array Value} {below : List Frame} {meth : Method} {c : Code} {E : EV} {rr : Int32} {τ : Mem} (C : Cx E p s m args meth c cX10_nextBy 7 (some .int) RX10) (k8 : Int32 → Int32 → Int32 → Int32 → Int32 → Mem → Option (Int32 × Mem)) (hk8 : ∀ (x1 : Int32) (x2 : Int32) (x3 : Int32) (x4 : Int32) (x5 : Int32) (σ : Mem) (H : Heap) (locs : List Loc) (ls : Array Slot) (hw : Wd TC E σ s H locs) (hl : lv_has ls 7 [(0, .ref (E.2.1 (5))), (1, .int x1), (2, .int x2), (3, .int x3), (4, .int x4), (5, .int x5)]) (h : k8 x1 x2 x3 x4 x5 σ = some (rr, τ)), W p l e { frames := 1, cells := 0, slots := 0, locals := 23 } s m args below meth c H locs 0 0 (MQ below (QI TC E rr τ) args s 0 0 E.2.2.1) (F0 m 8 ls [])) : ∀ (x1 : Int32) (x2 : Int32) (x3 : Int32) (x4 : Int32) (x5 : Int32) (σ : Mem) (H : Heap) (locs : List Loc) (ls : Array Slot) (hw : Wd TC E σ s H locs) (hl : lv_has ls 7 [(0, .ref (E.2.1 (5))), (1, .int x1), (2, .int x2), (3, .int x3), (4, .int x4), (5, .int x5)]) (h : f_X10_nextBy_48 k8 x1 x2 x3 x4 x5 σ = some (rr, τ)), W p l e { frames := 1, cells := 0, slots := 0, locals := 23 } s m args below meth c H locs 0 0 (MQ below (QI TC E rr τ) args s 0 0 E.2.2.1) (F0 m 48 ls []) := by
  obtain ⟨hx, hb, hml, hown, hts, hK, hSt, hlk, hr⟩ := id C
  intro x1 x2 x3 x4 x5 σ H locs ls hw hl h
  unfold f_X10_nextBy_48 at h
  obtain ⟨x5_8, ex5_8, h⟩ := lt_at h
  refine lv_iinc (v := x5_8) (lv' := [(5, .int x5_8), (0, .ref (E.2.1 (5))), (1, .int x1), (2, .int x2), (3, .int x3), (4, .int x4)]) hx hb dX10_nextBy_48 hl (k := 5) rfl (by rw [ex5_8]; rfl) (by decide) rfl (fun ls hl => ?_)
  refine lv_goto (tgt := 8) hx hb dX10_nextBy_51 (by decide) ?_
  exact hk8 _ _ _ _ _ _ _ _ _ hw (lv_sub hl [1, 2, 3, 4, 5, 0] rfl) h
set_option maxHeartbeats 4000000 in
set_option maxRecDepth 100000 in
theorem w_X10_nextBy_8 {p : Program} {l : Launch} {e : Env} {s : State} {m : MethodId} {args : Array Value} {below : List Frame} {meth : Method} {c : Code} {E : EV} {rr : Int32} {τ : Mem} (C : Cx E p s m args meth c cX10_nextBy 7 (some .int) RX10) : ∀ (n : Nat) (x1 : Int32) (x2 : Int32) (x3 : Int32) (x4 : Int32) (x5 : Int32) (σ : Mem) (H : Heap) (locs : List Loc) (ls : Array Slot) (hw : Wd TC E σ s H locs) (hl : lv_has ls 7 [(0, .ref (E.2.1 (5))), (1, .int x1), (2, .int x2), (3, .int x3), (4, .int x4), (5, .int x5)]) (h : fx6 (f_X10_nextBy_8) n x1 x2 x3 x4 x5 σ = some (rr, τ)), W p l e { frames := 1, cells := 0, slots := 0, locals := 23 } s m args below meth c H locs 0 0 (MQ below (QI TC E rr τ) args s 0 0 E.2.2.1) (F0 m 8 ls []) := by
  obtain ⟨hx, hb, hml, hown, hts, hK, hSt, hlk, hr⟩ := id C
  intro n
  induction n with
  | zero =>
    intro x1 x2 x3 x4 x5 σ H locs ls hw hl h
    have h : none = some (rr, τ) := h
    cases h
  | succ n hk8 =>
    intro x1 x2 x3 x4 x5 σ H locs ls hw hl h
    replace h : f_X10_nextBy_8 (fx6 (f_X10_nextBy_8) n) x1 x2 x3 x4 x5 σ = some (rr, τ) := h
    unfold f_X10_nextBy_8 at h
    refine lv_iload hx hb dX10_nextBy_8 (lv_at hl 5 rfl) ?_
    refine lv_bipush (v := 6) hx hb dX10_nextBy_10 (by decide) ?_
    refine lv_icmp_ge (tgt := 54) hx hb dX10_nextBy_12 (by decide) (fun c_1 => ?_) (fun c_1 => ?_)
    · replace h := it_at h c_1
      refine lv_iload_n hx hb dX10_nextBy_54 rfl (lv_at hl 3 rfl) ?_
      obtain ⟨rfl, rfl⟩ := ret_at h
      exact q_iret C hw dX10_nextBy_55
    · replace h := ie_at h c_1
      refine lv_aload_n hx hb dX10_nextBy_15 rfl (lv_at hl 0 rfl) ?_
      refine lv_iload_n hx hb dX10_nextBy_16 rfl (lv_at hl 1 rfl) ?_
      refine lv_iload hx hb dX10_nextBy_17 (lv_at hl 5 rfl) ?_
      obtain ⟨r_2, σ_3, h_4, h⟩ := bd_at h
      refine q_afterI hw (q_runV C hw hl.1 (As := [.int x1, .int x5]) (rest := []) (m_X10_chanceOf l E x1 x5 σ r_2 σ_3 h_4) yq_X10_chanceOf tC_5 rfl rfl kw_918 ⟨Nat.le_of_ble_eq_true rfl, Nat.le_of_ble_eq_true rfl⟩ rfl (Nat.le_of_ble_eq_true rfl) ⟨Nat.zero_le _, Nat.zero_le _⟩ dX10_nextBy_19) (fun H locs hw => ?_)
      refine lv_istore (lv' := [(6, .int r_2), (0, .ref (E.2.1 (5))), (1, .int x1), (2, .int x2), (3, .int x3), (4, .int x4), (5, .int x5)]) hx hb dX10_nextBy_22 hl (by decide) rfl (fun ls hl => ?_)
      refine lv_iload hx hb dX10_nextBy_24 (lv_at hl 5 rfl) ?_
      refine lv_iload hx hb dX10_nextBy_26 (lv_at hl 0 rfl) ?_
      refine lv_iadd hx hb dX10_nextBy_28 ?_
      obtain ⟨x4_5, ex4_5, h⟩ := lt_at h
      refine q_top ex4_5 ?_
      refine lv_istore (lv' := [(4, .int x4_5), (6, .int r_2), (0, .ref (E.2.1 (5))), (1, .int x1), (2, .int x2), (3, .int x3), (5, .int x5)]) hx hb dX10_nextBy_29 hl (by decide) rfl (fun ls hl => ?_)
      refine lv_iload hx hb dX10_nextBy_31 (lv_at hl 0 rfl) ?_
      refine lv_iload_n hx hb dX10_nextBy_33 rfl (lv_at hl 4 rfl) ?_
      refine lv_icmp_le (tgt := 40) hx hb dX10_nextBy_34 (by decide) (fun c_6 => ?_) (fun c_6 => ?_)
      · replace h := it_at h c_6
        refine lv_iload hx hb dX10_nextBy_40 (lv_at hl 1 rfl) ?_
        refine lv_if_le (tgt := 48) hx hb dX10_nextBy_42 (by decide) (fun c_7 => ?_) (fun c_7 => ?_)
        · replace h := it_at h c_7
          exact w_X10_nextBy_48 C _ hk8 _ _ _ _ _ _ _ _ _ hw (lv_sub hl [2, 3, 4, 5, 0, 6] rfl) h
        · replace h := ie_at h c_7
          refine lv_iload hx hb dX10_nextBy_45 (lv_at hl 6 rfl) ?_
          refine lv_istore_n (lv' := [(3, .int x5), (4, .int x4_5), (6, .int r_2), (0, .ref (E.2.1 (5))), (1, .int x1), (2, .int x2), (5, .int x5)]) hx hb dX10_nextBy_47 rfl hl (by decide) rfl (fun ls hl => ?_)
          exact w_X10_nextBy_48 C _ hk8 _ _ _ _ _ _ _ _ _ hw (lv_sub hl [3, 4, 5, 0, 1, 6] rfl) h
      · replace h := ie_at h c_6
        refine lv_iload hx hb dX10_nextBy_37 (lv_at hl 6 rfl) ?_
        obtain ⟨rfl, rfl⟩ := ret_at h
        exact q_iret C hw dX10_nextBy_39
set_option maxHeartbeats 4000000 in
set_option maxRecDepth 100000 in
theorem m_X10_nextBy (l : Launch) (E : EV) (p1 : Int32) (p2 : Int32) (σ : Mem) (rr : Int32) (τ : Mem) (h : f_X10_nextBy p1 p2 σ = some (rr, τ)) : MI TC l E yX10_nextBy cX10_nextBy 7 (some .int) 1 23 [.ref (E.2.1 (5)), .int p1, .int p2] σ rr τ := by
  refine mt_start RX10 (by decide +kernel) rfl (Nat.le_of_ble_eq_true rfl) (fun p e s m args below meth c ls C hw hl => ?_)
  replace hl : lv_has ls 7 [(0, .ref (E.2.1 (5))), (1, .int p1), (2, .int p2)] := hl
  obtain ⟨hx, hb, hml, hown, hts, hK, hSt, hlk, hr⟩ := id C
  unfold f_X10_nextBy at h
  refine lv_iload_n hx hb dX10_nextBy_0 rfl (lv_at hl 1 rfl) ?_
  refine lv_istore_n (lv' := [(3, .int p1), (0, .ref (E.2.1 (5))), (1, .int p1), (2, .int p2)]) hx hb dX10_nextBy_1 rfl hl (by decide) rfl (fun ls hl => ?_)
  refine lv_iconst (v := 0) hx hb dX10_nextBy_2 (by decide) ?_
  refine lv_istore (lv' := [(4, .int (0 : Int32)), (3, .int p1), (0, .ref (E.2.1 (5))), (1, .int p1), (2, .int p2)]) hx hb dX10_nextBy_3 hl (by decide) rfl (fun ls hl => ?_)
  refine lv_iconst (v := 0) hx hb dX10_nextBy_5 (by decide) ?_
  refine lv_istore (lv' := [(5, .int (0 : Int32)), (4, .int (0 : Int32)), (3, .int p1), (0, .ref (E.2.1 (5))), (1, .int p1), (2, .int p2)]) hx hb dX10_nextBy_6 hl (by decide) rfl (fun ls hl => ?_)
  exact w_X10_nextBy_8 C _ _ _ _ _ _ _ _ _ _ hw (lv_sub hl [3, 4, 5, 2, 1, 0] rfl) h
def f_X1_copyFroma (σ : Mem) : Option Mem :=
  lt (cpI σ 33 14 10) fun σ_1 =>
  lt (cpI σ_1 34 15 10) fun σ_2 =>
  lt (sI σ_2 13 2 (gI σ_2 32 2)) fun σ_3 =>
  some σ_3
set_option maxHeartbeats 4000000 in
set_option maxRecDepth 100000 in
theorem m_X1_copyFroma (l : Launch) (E : EV) (σ : Mem) (τ : Mem) (h : f_X1_copyFroma  σ = some τ) : MV TC l E yX1_copyFrom cX1_copyFrom 2 none 1 60 [.ref (E.2.1 (13)), .ref (E.2.1 (32))] σ τ := by
  refine mt_start RX1 (by decide +kernel) rfl (Nat.le_of_ble_eq_true rfl) (fun p e s m args below meth c ls C hw hl => ?_)
  replace hl : lv_has ls 2 [(0, .ref (E.2.1 (13))), (1, .ref (E.2.1 (32)))] := hl
  obtain ⟨hx, hb, hml, hown, hts, hK, hSt, hlk, hr⟩ := id C
  unfold f_X1_copyFroma at h
  refine lv_aload_n hx hb dX1_copyFrom_0 rfl (lv_at hl 1 rfl) ?_
  refine gf_1_0 C hw tC_32 kw_207 (c1 := 33) rfl dX1_copyFrom_1 ?_
  refine lv_iconst (v := 0) hx hb dX1_copyFrom_4 (by decide) ?_
  refine lv_aload_n hx hb dX1_copyFrom_5 rfl (lv_at hl 0 rfl) ?_
  refine gf_1_0 C hw tC_13 kw_207 (c1 := 14) rfl dX1_copyFrom_6 ?_
  refine lv_iconst (v := 0) hx hb dX1_copyFrom_9 (by decide) ?_
  refine lv_bipush (v := 10) hx hb dX1_copyFrom_10 (by decide) ?_
  obtain ⟨σ_1, eσ_1, h⟩ := lt_at h
  refine q_copy C hw hl.1 kw_999 (Nat.le_of_ble_eq_true rfl) (Nat.le_of_ble_eq_true (by rfl)) (Nat.le_of_ble_eq_true rfl) tC_33 tC_14 rfl (by decide) eσ_1 dX1_copyFrom_12 (fun H locs hw => ?_)
  refine lv_aload_n hx hb dX1_copyFrom_15 rfl (lv_at hl 1 rfl) ?_
  refine gf_1_1 C hw tC_32 kw_208 (c1 := 34) rfl dX1_copyFrom_16 ?_
  refine lv_iconst (v := 0) hx hb dX1_copyFrom_19 (by decide) ?_
  refine lv_aload_n hx hb dX1_copyFrom_20 rfl (lv_at hl 0 rfl) ?_
  refine gf_1_1 C hw tC_13 kw_208 (c1 := 15) rfl dX1_copyFrom_21 ?_
  refine lv_iconst (v := 0) hx hb dX1_copyFrom_24 (by decide) ?_
  refine lv_bipush (v := 10) hx hb dX1_copyFrom_25 (by decide) ?_
  obtain ⟨σ_2, eσ_2, h⟩ := lt_at h
  refine q_copy C hw hl.1 kw_999 (Nat.le_of_ble_eq_true rfl) (Nat.le_of_ble_eq_true (by rfl)) (Nat.le_of_ble_eq_true rfl) tC_34 tC_15 rfl (by decide) eσ_2 dX1_copyFrom_27 (fun H locs hw => ?_)
  refine lv_aload_n hx hb dX1_copyFrom_30 rfl (lv_at hl 0 rfl) ?_
  refine lv_aload_n hx hb dX1_copyFrom_31 rfl (lv_at hl 1 rfl) ?_
  refine gf_1_2 C hw tC_32 kw_209 dX1_copyFrom_32 ?_
  obtain ⟨σ_3, eσ_3, h⟩ := lt_at h
  refine pf_1_2 C hw tC_13 kw_209 eσ_3 dX1_copyFrom_35 (fun H locs hw => ?_)
  cases h
  exact q_vret C hw dX1_copyFrom_38
def f_X1_copyFromb (σ : Mem) : Option Mem :=
  lt (cpI σ 14 33 10) fun σ_1 =>
  lt (cpI σ_1 15 34 10) fun σ_2 =>
  lt (sI σ_2 32 2 (gI σ_2 13 2)) fun σ_3 =>
  some σ_3
set_option maxHeartbeats 4000000 in
set_option maxRecDepth 100000 in
theorem m_X1_copyFromb (l : Launch) (E : EV) (σ : Mem) (τ : Mem) (h : f_X1_copyFromb  σ = some τ) : MV TC l E yX1_copyFrom cX1_copyFrom 2 none 1 60 [.ref (E.2.1 (32)), .ref (E.2.1 (13))] σ τ := by
  refine mt_start RX1 (by decide +kernel) rfl (Nat.le_of_ble_eq_true rfl) (fun p e s m args below meth c ls C hw hl => ?_)
  replace hl : lv_has ls 2 [(0, .ref (E.2.1 (32))), (1, .ref (E.2.1 (13)))] := hl
  obtain ⟨hx, hb, hml, hown, hts, hK, hSt, hlk, hr⟩ := id C
  unfold f_X1_copyFromb at h
  refine lv_aload_n hx hb dX1_copyFrom_0 rfl (lv_at hl 1 rfl) ?_
  refine gf_1_0 C hw tC_13 kw_207 (c1 := 14) rfl dX1_copyFrom_1 ?_
  refine lv_iconst (v := 0) hx hb dX1_copyFrom_4 (by decide) ?_
  refine lv_aload_n hx hb dX1_copyFrom_5 rfl (lv_at hl 0 rfl) ?_
  refine gf_1_0 C hw tC_32 kw_207 (c1 := 33) rfl dX1_copyFrom_6 ?_
  refine lv_iconst (v := 0) hx hb dX1_copyFrom_9 (by decide) ?_
  refine lv_bipush (v := 10) hx hb dX1_copyFrom_10 (by decide) ?_
  obtain ⟨σ_1, eσ_1, h⟩ := lt_at h
  refine q_copy C hw hl.1 kw_999 (Nat.le_of_ble_eq_true rfl) (Nat.le_of_ble_eq_true (by rfl)) (Nat.le_of_ble_eq_true rfl) tC_14 tC_33 rfl (by decide) eσ_1 dX1_copyFrom_12 (fun H locs hw => ?_)
  refine lv_aload_n hx hb dX1_copyFrom_15 rfl (lv_at hl 1 rfl) ?_
  refine gf_1_1 C hw tC_13 kw_208 (c1 := 15) rfl dX1_copyFrom_16 ?_
  refine lv_iconst (v := 0) hx hb dX1_copyFrom_19 (by decide) ?_
  refine lv_aload_n hx hb dX1_copyFrom_20 rfl (lv_at hl 0 rfl) ?_
  refine gf_1_1 C hw tC_32 kw_208 (c1 := 34) rfl dX1_copyFrom_21 ?_
  refine lv_iconst (v := 0) hx hb dX1_copyFrom_24 (by decide) ?_
  refine lv_bipush (v := 10) hx hb dX1_copyFrom_25 (by decide) ?_
  obtain ⟨σ_2, eσ_2, h⟩ := lt_at h
  refine q_copy C hw hl.1 kw_999 (Nat.le_of_ble_eq_true rfl) (Nat.le_of_ble_eq_true (by rfl)) (Nat.le_of_ble_eq_true rfl) tC_15 tC_34 rfl (by decide) eσ_2 dX1_copyFrom_27 (fun H locs hw => ?_)
  refine lv_aload_n hx hb dX1_copyFrom_30 rfl (lv_at hl 0 rfl) ?_
  refine lv_aload_n hx hb dX1_copyFrom_31 rfl (lv_at hl 1 rfl) ?_
  refine gf_1_2 C hw tC_13 kw_209 dX1_copyFrom_32 ?_
  obtain ⟨σ_3, eσ_3, h⟩ := lt_at h
  refine pf_1_2 C hw tC_32 kw_209 eσ_3 dX1_copyFrom_35 (fun H locs hw => ?_)
  cases h
  exact q_vret C hw dX1_copyFrom_38
def f_X2_copyFroma (σ : Mem) : Option Mem :=
  lt (sI σ 7 0 (gI σ 26 0)) fun σ_1 =>
  lt (sI σ_1 7 1 (gI σ_1 26 1)) fun σ_2 =>
  lt (sI σ_2 7 2 (gI σ_2 26 2)) fun σ_3 =>
  lt (sI σ_3 7 3 (gI σ_3 26 3)) fun σ_4 =>
  lt (sI σ_4 7 4 (gI σ_4 26 4)) fun σ_5 =>
  gd (iz (gI σ_5 26 5)) <|
  lt (sI σ_5 7 5 (gI σ_5 26 5)) fun σ_6 =>
  some σ_6
set_option maxHeartbeats 4000000 in
set_option maxRecDepth 100000 in
theorem m_X2_copyFroma (l : Launch) (E : EV) (σ : Mem) (τ : Mem) (h : f_X2_copyFroma  σ = some τ) : MV TC l E yX2_copyFrom cX2_copyFrom 2 none 0 0 [.ref (E.2.1 (7)), .ref (E.2.1 (26))] σ τ := by
  refine mt_start RX2 (by decide +kernel) rfl (Nat.le_of_ble_eq_true rfl) (fun p e s m args below meth c ls C hw hl => ?_)
  replace hl : lv_has ls 2 [(0, .ref (E.2.1 (7))), (1, .ref (E.2.1 (26)))] := hl
  obtain ⟨hx, hb, hml, hown, hts, hK, hSt, hlk, hr⟩ := id C
  unfold f_X2_copyFroma at h
  refine lv_aload_n hx hb dX2_copyFrom_0 rfl (lv_at hl 0 rfl) ?_
  refine lv_aload_n hx hb dX2_copyFrom_1 rfl (lv_at hl 1 rfl) ?_
  refine gf_2_0 C hw tC_26 kw_146 dX2_copyFrom_2 ?_
  obtain ⟨σ_1, eσ_1, h⟩ := lt_at h
  refine pf_2_0 C hw tC_7 kw_146 eσ_1 dX2_copyFrom_5 (fun H locs hw => ?_)
  refine lv_aload_n hx hb dX2_copyFrom_8 rfl (lv_at hl 0 rfl) ?_
  refine lv_aload_n hx hb dX2_copyFrom_9 rfl (lv_at hl 1 rfl) ?_
  refine gf_2_1 C hw tC_26 kw_148 dX2_copyFrom_10 ?_
  obtain ⟨σ_2, eσ_2, h⟩ := lt_at h
  refine pf_2_1 C hw tC_7 kw_148 eσ_2 dX2_copyFrom_13 (fun H locs hw => ?_)
  refine lv_aload_n hx hb dX2_copyFrom_16 rfl (lv_at hl 0 rfl) ?_
  refine lv_aload_n hx hb dX2_copyFrom_17 rfl (lv_at hl 1 rfl) ?_
  refine gf_2_2 C hw tC_26 kw_150 dX2_copyFrom_18 ?_
  obtain ⟨σ_3, eσ_3, h⟩ := lt_at h
  refine pf_2_2 C hw tC_7 kw_150 eσ_3 dX2_copyFrom_21 (fun H locs hw => ?_)
  refine lv_aload_n hx hb dX2_copyFrom_24 rfl (lv_at hl 0 rfl) ?_
  refine lv_aload_n hx hb dX2_copyFrom_25 rfl (lv_at hl 1 rfl) ?_
  refine gf_2_3 C hw tC_26 kw_152 dX2_copyFrom_26 ?_
  obtain ⟨σ_4, eσ_4, h⟩ := lt_at h
  refine pf_2_3 C hw tC_7 kw_152 eσ_4 dX2_copyFrom_29 (fun H locs hw => ?_)
  refine lv_aload_n hx hb dX2_copyFrom_32 rfl (lv_at hl 0 rfl) ?_
  refine lv_aload_n hx hb dX2_copyFrom_33 rfl (lv_at hl 1 rfl) ?_
  refine gf_2_4 C hw tC_26 kw_154 dX2_copyFrom_34 ?_
  obtain ⟨σ_5, eσ_5, h⟩ := lt_at h
  refine pf_2_4 C hw tC_7 kw_154 eσ_5 dX2_copyFrom_37 (fun H locs hw => ?_)
  refine lv_aload_n hx hb dX2_copyFrom_40 rfl (lv_at hl 0 rfl) ?_
  refine lv_aload_n hx hb dX2_copyFrom_41 rfl (lv_at hl 1 rfl) ?_
  refine gf_2_5 C hw tC_26 kw_156 dX2_copyFrom_42 ?_
  obtain ⟨g_7, h⟩ := gd_at h
  obtain ⟨σ_6, eσ_6, h⟩ := lt_at h
  refine pf_2_5 C hw tC_7 kw_156 g_7 eσ_6 dX2_copyFrom_45 (fun H locs hw => ?_)
  cases h
  exact q_vret C hw dX2_copyFrom_48
def f_X2_copyFromb (σ : Mem) : Option Mem :=
  lt (sI σ 26 0 (gI σ 7 0)) fun σ_1 =>
  lt (sI σ_1 26 1 (gI σ_1 7 1)) fun σ_2 =>
  lt (sI σ_2 26 2 (gI σ_2 7 2)) fun σ_3 =>
  lt (sI σ_3 26 3 (gI σ_3 7 3)) fun σ_4 =>
  lt (sI σ_4 26 4 (gI σ_4 7 4)) fun σ_5 =>
  gd (iz (gI σ_5 7 5)) <|
  lt (sI σ_5 26 5 (gI σ_5 7 5)) fun σ_6 =>
  some σ_6
set_option maxHeartbeats 4000000 in
set_option maxRecDepth 100000 in
theorem m_X2_copyFromb (l : Launch) (E : EV) (σ : Mem) (τ : Mem) (h : f_X2_copyFromb  σ = some τ) : MV TC l E yX2_copyFrom cX2_copyFrom 2 none 0 0 [.ref (E.2.1 (26)), .ref (E.2.1 (7))] σ τ := by
  refine mt_start RX2 (by decide +kernel) rfl (Nat.le_of_ble_eq_true rfl) (fun p e s m args below meth c ls C hw hl => ?_)
  replace hl : lv_has ls 2 [(0, .ref (E.2.1 (26))), (1, .ref (E.2.1 (7)))] := hl
  obtain ⟨hx, hb, hml, hown, hts, hK, hSt, hlk, hr⟩ := id C
  unfold f_X2_copyFromb at h
  refine lv_aload_n hx hb dX2_copyFrom_0 rfl (lv_at hl 0 rfl) ?_
  refine lv_aload_n hx hb dX2_copyFrom_1 rfl (lv_at hl 1 rfl) ?_
  refine gf_2_0 C hw tC_7 kw_146 dX2_copyFrom_2 ?_
  obtain ⟨σ_1, eσ_1, h⟩ := lt_at h
  refine pf_2_0 C hw tC_26 kw_146 eσ_1 dX2_copyFrom_5 (fun H locs hw => ?_)
  refine lv_aload_n hx hb dX2_copyFrom_8 rfl (lv_at hl 0 rfl) ?_
  refine lv_aload_n hx hb dX2_copyFrom_9 rfl (lv_at hl 1 rfl) ?_
  refine gf_2_1 C hw tC_7 kw_148 dX2_copyFrom_10 ?_
  obtain ⟨σ_2, eσ_2, h⟩ := lt_at h
  refine pf_2_1 C hw tC_26 kw_148 eσ_2 dX2_copyFrom_13 (fun H locs hw => ?_)
  refine lv_aload_n hx hb dX2_copyFrom_16 rfl (lv_at hl 0 rfl) ?_
  refine lv_aload_n hx hb dX2_copyFrom_17 rfl (lv_at hl 1 rfl) ?_
  refine gf_2_2 C hw tC_7 kw_150 dX2_copyFrom_18 ?_
  obtain ⟨σ_3, eσ_3, h⟩ := lt_at h
  refine pf_2_2 C hw tC_26 kw_150 eσ_3 dX2_copyFrom_21 (fun H locs hw => ?_)
  refine lv_aload_n hx hb dX2_copyFrom_24 rfl (lv_at hl 0 rfl) ?_
  refine lv_aload_n hx hb dX2_copyFrom_25 rfl (lv_at hl 1 rfl) ?_
  refine gf_2_3 C hw tC_7 kw_152 dX2_copyFrom_26 ?_
  obtain ⟨σ_4, eσ_4, h⟩ := lt_at h
  refine pf_2_3 C hw tC_26 kw_152 eσ_4 dX2_copyFrom_29 (fun H locs hw => ?_)
  refine lv_aload_n hx hb dX2_copyFrom_32 rfl (lv_at hl 0 rfl) ?_
  refine lv_aload_n hx hb dX2_copyFrom_33 rfl (lv_at hl 1 rfl) ?_
  refine gf_2_4 C hw tC_7 kw_154 dX2_copyFrom_34 ?_
  obtain ⟨σ_5, eσ_5, h⟩ := lt_at h
  refine pf_2_4 C hw tC_26 kw_154 eσ_5 dX2_copyFrom_37 (fun H locs hw => ?_)
  refine lv_aload_n hx hb dX2_copyFrom_40 rfl (lv_at hl 0 rfl) ?_
  refine lv_aload_n hx hb dX2_copyFrom_41 rfl (lv_at hl 1 rfl) ?_
  refine gf_2_5 C hw tC_7 kw_156 dX2_copyFrom_42 ?_
  obtain ⟨g_7, h⟩ := gd_at h
  obtain ⟨σ_6, eσ_6, h⟩ := lt_at h
  refine pf_2_5 C hw tC_26 kw_156 g_7 eσ_6 dX2_copyFrom_45 (fun H locs hw => ?_)
  cases h
  exact q_vret C hw dX2_copyFrom_48
def f_X3_fastOf (p0 : Int32) (σ : Mem) : Option (Int32 × Mem) :=
  some (p0 &&& (127 : Int32), σ)
set_option maxHeartbeats 4000000 in
set_option maxRecDepth 100000 in
theorem m_X3_fastOf (l : Launch) (E : EV) (p0 : Int32) (σ : Mem) (rr : Int32) (τ : Mem) (h : f_X3_fastOf p0 σ = some (rr, τ)) : MI TC l E yX3_fastOf cX3_fastOf 1 (some .int) 0 0 [.int p0] σ rr τ := by
  refine mt_start RX3 (by decide +kernel) rfl (Nat.le_of_ble_eq_true rfl) (fun p e s m args below meth c ls C hw hl => ?_)
  replace hl : lv_has ls 1 [(0, .int p0)] := hl
  obtain ⟨hx, hb, hml, hown, hts, hK, hSt, hlk, hr⟩ := id C
  unfold f_X3_fastOf at h
  refine lv_iload_n hx hb dX3_fastOf_0 rfl (lv_at hl 0 rfl) ?_
  refine lv_bipush (v := 127) hx hb dX3_fastOf_1 (by decide) ?_
  refine lv_iand hx hb dX3_fastOf_3 ?_
  obtain ⟨rfl, rfl⟩ := ret_at h
  exact q_iret C hw dX3_fastOf_4
def f_X4_copyFroma (σ : Mem) : Option Mem :=
  lt (cpI σ 36 17 6) fun σ_1 =>
  lt (cpI σ_1 37 18 6) fun σ_2 =>
  lt (cpI σ_2 38 19 6) fun σ_3 =>
  lt (cpI σ_3 39 20 6) fun σ_4 =>
  lt (sI σ_4 16 4 (gI σ_4 35 4)) fun σ_5 =>
  some σ_5
set_option maxHeartbeats 4000000 in
set_option maxRecDepth 100000 in
theorem m_X4_copyFroma (l : Launch) (E : EV) (σ : Mem) (τ : Mem) (h : f_X4_copyFroma  σ = some τ) : MV TC l E yX4_copyFrom cX4_copyFrom 2 none 1 60 [.ref (E.2.1 (16)), .ref (E.2.1 (35))] σ τ := by
  refine mt_start RX4 (by decide +kernel) rfl (Nat.le_of_ble_eq_true rfl) (fun p e s m args below meth c ls C hw hl => ?_)
  replace hl : lv_has ls 2 [(0, .ref (E.2.1 (16))), (1, .ref (E.2.1 (35)))] := hl
  obtain ⟨hx, hb, hml, hown, hts, hK, hSt, hlk, hr⟩ := id C
  unfold f_X4_copyFroma at h
  refine lv_aload_n hx hb dX4_copyFrom_0 rfl (lv_at hl 1 rfl) ?_
  refine gf_4_0 C hw tC_35 kw_224 (c1 := 36) rfl dX4_copyFrom_1 ?_
  refine lv_iconst (v := 0) hx hb dX4_copyFrom_4 (by decide) ?_
  refine lv_aload_n hx hb dX4_copyFrom_5 rfl (lv_at hl 0 rfl) ?_
  refine gf_4_0 C hw tC_16 kw_224 (c1 := 17) rfl dX4_copyFrom_6 ?_
  refine lv_iconst (v := 0) hx hb dX4_copyFrom_9 (by decide) ?_
  refine lv_bipush (v := 6) hx hb dX4_copyFrom_10 (by decide) ?_
  obtain ⟨σ_1, eσ_1, h⟩ := lt_at h
  refine q_copy C hw hl.1 kw_1004 (Nat.le_of_ble_eq_true rfl) (Nat.le_of_ble_eq_true (by rfl)) (Nat.le_of_ble_eq_true rfl) tC_36 tC_17 rfl (by decide) eσ_1 dX4_copyFrom_12 (fun H locs hw => ?_)
  refine lv_aload_n hx hb dX4_copyFrom_15 rfl (lv_at hl 1 rfl) ?_
  refine gf_4_1 C hw tC_35 kw_225 (c1 := 37) rfl dX4_copyFrom_16 ?_
  refine lv_iconst (v := 0) hx hb dX4_copyFrom_19 (by decide) ?_
  refine lv_aload_n hx hb dX4_copyFrom_20 rfl (lv_at hl 0 rfl) ?_
  refine gf_4_1 C hw tC_16 kw_225 (c1 := 18) rfl dX4_copyFrom_21 ?_
  refine lv_iconst (v := 0) hx hb dX4_copyFrom_24 (by decide) ?_
  refine lv_bipush (v := 6) hx hb dX4_copyFrom_25 (by decide) ?_
  obtain ⟨σ_2, eσ_2, h⟩ := lt_at h
  refine q_copy C hw hl.1 kw_1004 (Nat.le_of_ble_eq_true rfl) (Nat.le_of_ble_eq_true (by rfl)) (Nat.le_of_ble_eq_true rfl) tC_37 tC_18 rfl (by decide) eσ_2 dX4_copyFrom_27 (fun H locs hw => ?_)
  refine lv_aload_n hx hb dX4_copyFrom_30 rfl (lv_at hl 1 rfl) ?_
  refine gf_4_2 C hw tC_35 kw_226 (c1 := 38) rfl dX4_copyFrom_31 ?_
  refine lv_iconst (v := 0) hx hb dX4_copyFrom_34 (by decide) ?_
  refine lv_aload_n hx hb dX4_copyFrom_35 rfl (lv_at hl 0 rfl) ?_
  refine gf_4_2 C hw tC_16 kw_226 (c1 := 19) rfl dX4_copyFrom_36 ?_
  refine lv_iconst (v := 0) hx hb dX4_copyFrom_39 (by decide) ?_
  refine lv_bipush (v := 6) hx hb dX4_copyFrom_40 (by decide) ?_
  obtain ⟨σ_3, eσ_3, h⟩ := lt_at h
  refine q_copy C hw hl.1 kw_1004 (Nat.le_of_ble_eq_true rfl) (Nat.le_of_ble_eq_true (by rfl)) (Nat.le_of_ble_eq_true rfl) tC_38 tC_19 rfl (by decide) eσ_3 dX4_copyFrom_42 (fun H locs hw => ?_)
  refine lv_aload_n hx hb dX4_copyFrom_45 rfl (lv_at hl 1 rfl) ?_
  refine gf_4_3 C hw tC_35 kw_227 (c1 := 39) rfl dX4_copyFrom_46 ?_
  refine lv_iconst (v := 0) hx hb dX4_copyFrom_49 (by decide) ?_
  refine lv_aload_n hx hb dX4_copyFrom_50 rfl (lv_at hl 0 rfl) ?_
  refine gf_4_3 C hw tC_16 kw_227 (c1 := 20) rfl dX4_copyFrom_51 ?_
  refine lv_iconst (v := 0) hx hb dX4_copyFrom_54 (by decide) ?_
  refine lv_bipush (v := 6) hx hb dX4_copyFrom_55 (by decide) ?_
  obtain ⟨σ_4, eσ_4, h⟩ := lt_at h
  refine q_copy C hw hl.1 kw_1004 (Nat.le_of_ble_eq_true rfl) (Nat.le_of_ble_eq_true (by rfl)) (Nat.le_of_ble_eq_true rfl) tC_39 tC_20 rfl (by decide) eσ_4 dX4_copyFrom_57 (fun H locs hw => ?_)
  refine lv_aload_n hx hb dX4_copyFrom_60 rfl (lv_at hl 0 rfl) ?_
  refine lv_aload_n hx hb dX4_copyFrom_61 rfl (lv_at hl 1 rfl) ?_
  refine gf_4_4 C hw tC_35 kw_228 dX4_copyFrom_62 ?_
  obtain ⟨σ_5, eσ_5, h⟩ := lt_at h
  refine pf_4_4 C hw tC_16 kw_228 eσ_5 dX4_copyFrom_65 (fun H locs hw => ?_)
  cases h
  exact q_vret C hw dX4_copyFrom_68
def f_X4_copyFromb (σ : Mem) : Option Mem :=
  lt (cpI σ 17 36 6) fun σ_1 =>
  lt (cpI σ_1 18 37 6) fun σ_2 =>
  lt (cpI σ_2 19 38 6) fun σ_3 =>
  lt (cpI σ_3 20 39 6) fun σ_4 =>
  lt (sI σ_4 35 4 (gI σ_4 16 4)) fun σ_5 =>
  some σ_5
set_option maxHeartbeats 4000000 in
set_option maxRecDepth 100000 in
theorem m_X4_copyFromb (l : Launch) (E : EV) (σ : Mem) (τ : Mem) (h : f_X4_copyFromb  σ = some τ) : MV TC l E yX4_copyFrom cX4_copyFrom 2 none 1 60 [.ref (E.2.1 (35)), .ref (E.2.1 (16))] σ τ := by
  refine mt_start RX4 (by decide +kernel) rfl (Nat.le_of_ble_eq_true rfl) (fun p e s m args below meth c ls C hw hl => ?_)
  replace hl : lv_has ls 2 [(0, .ref (E.2.1 (35))), (1, .ref (E.2.1 (16)))] := hl
  obtain ⟨hx, hb, hml, hown, hts, hK, hSt, hlk, hr⟩ := id C
  unfold f_X4_copyFromb at h
  refine lv_aload_n hx hb dX4_copyFrom_0 rfl (lv_at hl 1 rfl) ?_
  refine gf_4_0 C hw tC_16 kw_224 (c1 := 17) rfl dX4_copyFrom_1 ?_
  refine lv_iconst (v := 0) hx hb dX4_copyFrom_4 (by decide) ?_
  refine lv_aload_n hx hb dX4_copyFrom_5 rfl (lv_at hl 0 rfl) ?_
  refine gf_4_0 C hw tC_35 kw_224 (c1 := 36) rfl dX4_copyFrom_6 ?_
  refine lv_iconst (v := 0) hx hb dX4_copyFrom_9 (by decide) ?_
  refine lv_bipush (v := 6) hx hb dX4_copyFrom_10 (by decide) ?_
  obtain ⟨σ_1, eσ_1, h⟩ := lt_at h
  refine q_copy C hw hl.1 kw_1004 (Nat.le_of_ble_eq_true rfl) (Nat.le_of_ble_eq_true (by rfl)) (Nat.le_of_ble_eq_true rfl) tC_17 tC_36 rfl (by decide) eσ_1 dX4_copyFrom_12 (fun H locs hw => ?_)
  refine lv_aload_n hx hb dX4_copyFrom_15 rfl (lv_at hl 1 rfl) ?_
  refine gf_4_1 C hw tC_16 kw_225 (c1 := 18) rfl dX4_copyFrom_16 ?_
  refine lv_iconst (v := 0) hx hb dX4_copyFrom_19 (by decide) ?_
  refine lv_aload_n hx hb dX4_copyFrom_20 rfl (lv_at hl 0 rfl) ?_
  refine gf_4_1 C hw tC_35 kw_225 (c1 := 37) rfl dX4_copyFrom_21 ?_
  refine lv_iconst (v := 0) hx hb dX4_copyFrom_24 (by decide) ?_
  refine lv_bipush (v := 6) hx hb dX4_copyFrom_25 (by decide) ?_
  obtain ⟨σ_2, eσ_2, h⟩ := lt_at h
  refine q_copy C hw hl.1 kw_1004 (Nat.le_of_ble_eq_true rfl) (Nat.le_of_ble_eq_true (by rfl)) (Nat.le_of_ble_eq_true rfl) tC_18 tC_37 rfl (by decide) eσ_2 dX4_copyFrom_27 (fun H locs hw => ?_)
  refine lv_aload_n hx hb dX4_copyFrom_30 rfl (lv_at hl 1 rfl) ?_
  refine gf_4_2 C hw tC_16 kw_226 (c1 := 19) rfl dX4_copyFrom_31 ?_
  refine lv_iconst (v := 0) hx hb dX4_copyFrom_34 (by decide) ?_
  refine lv_aload_n hx hb dX4_copyFrom_35 rfl (lv_at hl 0 rfl) ?_
  refine gf_4_2 C hw tC_35 kw_226 (c1 := 38) rfl dX4_copyFrom_36 ?_
  refine lv_iconst (v := 0) hx hb dX4_copyFrom_39 (by decide) ?_
  refine lv_bipush (v := 6) hx hb dX4_copyFrom_40 (by decide) ?_
  obtain ⟨σ_3, eσ_3, h⟩ := lt_at h
  refine q_copy C hw hl.1 kw_1004 (Nat.le_of_ble_eq_true rfl) (Nat.le_of_ble_eq_true (by rfl)) (Nat.le_of_ble_eq_true rfl) tC_19 tC_38 rfl (by decide) eσ_3 dX4_copyFrom_42 (fun H locs hw => ?_)
  refine lv_aload_n hx hb dX4_copyFrom_45 rfl (lv_at hl 1 rfl) ?_
  refine gf_4_3 C hw tC_16 kw_227 (c1 := 20) rfl dX4_copyFrom_46 ?_
  refine lv_iconst (v := 0) hx hb dX4_copyFrom_49 (by decide) ?_
  refine lv_aload_n hx hb dX4_copyFrom_50 rfl (lv_at hl 0 rfl) ?_
  refine gf_4_3 C hw tC_35 kw_227 (c1 := 39) rfl dX4_copyFrom_51 ?_
  refine lv_iconst (v := 0) hx hb dX4_copyFrom_54 (by decide) ?_
  refine lv_bipush (v := 6) hx hb dX4_copyFrom_55 (by decide) ?_
  obtain ⟨σ_4, eσ_4, h⟩ := lt_at h
  refine q_copy C hw hl.1 kw_1004 (Nat.le_of_ble_eq_true rfl) (Nat.le_of_ble_eq_true (by rfl)) (Nat.le_of_ble_eq_true rfl) tC_20 tC_39 rfl (by decide) eσ_4 dX4_copyFrom_57 (fun H locs hw => ?_)
  refine lv_aload_n hx hb dX4_copyFrom_60 rfl (lv_at hl 0 rfl) ?_
  refine lv_aload_n hx hb dX4_copyFrom_61 rfl (lv_at hl 1 rfl) ?_
  refine gf_4_4 C hw tC_16 kw_228 dX4_copyFrom_62 ?_
  obtain ⟨σ_5, eσ_5, h⟩ := lt_at h
  refine pf_4_4 C hw tC_35 kw_228 eσ_5 dX4_copyFrom_65 (fun H locs hw => ?_)
  cases h
  exact q_vret C hw dX4_copyFrom_68
def f_X5_startMean (p1 : Int32) (p2 : Int32) (p3 : Int32) (σ : Mem) : Option Mem :=
  lt (sI σ 41 12 p1) fun σ_1 =>
  lt (sI σ_1 41 13 p2) fun σ_2 =>
  gd (iz p3) <|
  lt (sI σ_2 41 14 p3) fun σ_3 =>
  lt (sI σ_3 41 5 ((gI σ_3 41 5) + (1 : Int32))) fun σ_5 =>
  some σ_5
set_option maxHeartbeats 4000000 in
set_option maxRecDepth 100000 in
theorem m_X5_startMean (l : Launch) (E : EV) (p1 : Int32) (p2 : Int32) (p3 : Int32) (σ : Mem) (τ : Mem) (h : f_X5_startMean p1 p2 p3 σ = some τ) : MV TC l E yX5_startMean cX5_startMean 4 none 0 0 [.ref (E.2.1 (41)), .int p1, .int p2, .int p3] σ τ := by
  refine mt_start RX5 (by decide +kernel) rfl (Nat.le_of_ble_eq_true rfl) (fun p e s m args below meth c ls C hw hl => ?_)
  replace hl : lv_has ls 4 [(0, .ref (E.2.1 (41))), (1, .int p1), (2, .int p2), (3, .int p3)] := hl
  obtain ⟨hx, hb, hml, hown, hts, hK, hSt, hlk, hr⟩ := id C
  unfold f_X5_startMean at h
  refine lv_aload_n hx hb dX5_startMean_0 rfl (lv_at hl 0 rfl) ?_
  refine lv_iload_n hx hb dX5_startMean_1 rfl (lv_at hl 1 rfl) ?_
  obtain ⟨σ_1, eσ_1, h⟩ := lt_at h
  refine pf_5_12 C hw tC_41 kw_304 eσ_1 dX5_startMean_2 (fun H locs hw => ?_)
  refine lv_aload_n hx hb dX5_startMean_5 rfl (lv_at hl 0 rfl) ?_
  refine lv_iload_n hx hb dX5_startMean_6 rfl (lv_at hl 2 rfl) ?_
  obtain ⟨σ_2, eσ_2, h⟩ := lt_at h
  refine pf_5_13 C hw tC_41 kw_305 eσ_2 dX5_startMean_7 (fun H locs hw => ?_)
  refine lv_aload_n hx hb dX5_startMean_10 rfl (lv_at hl 0 rfl) ?_
  refine lv_iload_n hx hb dX5_startMean_11 rfl (lv_at hl 3 rfl) ?_
  obtain ⟨g_4, h⟩ := gd_at h
  obtain ⟨σ_3, eσ_3, h⟩ := lt_at h
  refine pf_5_14 C hw tC_41 kw_306 g_4 eσ_3 dX5_startMean_12 (fun H locs hw => ?_)
  refine lv_aload_n hx hb dX5_startMean_15 rfl (lv_at hl 0 rfl) ?_
  refine lv_dup hx hb dX5_startMean_16 rfl ?_
  refine gf_5_5 C hw tC_41 kw_297 dX5_startMean_17 ?_
  refine lv_iconst (v := 1) hx hb dX5_startMean_20 (by decide) ?_
  refine lv_iadd hx hb dX5_startMean_21 ?_
  obtain ⟨σ_5, eσ_5, h⟩ := lt_at h
  refine pf_5_5 C hw tC_41 kw_297 eσ_5 dX5_startMean_22 (fun H locs hw => ?_)
  cases h
  exact q_vret C hw dX5_startMean_25
def f_X5_mostMeal_90 (k9 : Int32 → Int32 → Int32 → Int32 → Int32 → Int32 → Int32 → Mem → Option (Int32 × Mem)) (x1 : Int32) (x2 : Int32) (x3 : Int32) (x4 : Int32) (x5 : Int32) (x6 : Int32) (x7 : Int32) (σ : Mem) : Option (Int32 × Mem) :=
  lt (x7 + (1 : Int32)) fun x7_23 =>
  k9 x1 x2 x3 x4 x5 x6 x7_23 σ
def f_X5_mostMeal_62 (k9 : Int32 → Int32 → Int32 → Int32 → Int32 → Int32 → Int32 → Mem → Option (Int32 × Mem)) (x1 : Int32) (x2 : Int32) (x3 : Int32) (x4 : Int32) (x5 : Int32) (x6 : Int32) (x7 : Int32) (x8 : Int32) (s0 : Int32) (σ : Mem) : Option (Int32 × Mem) :=
  if s0 = 0 then
    (f_X5_mostMeal_90 k9 x1 x2 x3 x4 x5 x6 x7 σ)
  else
    bd (f_X3_mealOf x8 σ) fun r_16 σ_17 =>
    if r_16 ≤ x5 then
      (f_X5_mostMeal_90 k9 x1 x2 x3 x4 x5 x6 x7 σ_17)
    else
      bd (f_X3_mealOf x8 σ_17) fun r_20 σ_21 =>
      f_X5_mostMeal_90 k9 x1 x2 x3 x4 r_20 x7 x7 σ_21
def f_X5_mostMeal_61 (k9 : Int32 → Int32 → Int32 → Int32 → Int32 → Int32 → Int32 → Mem → Option (Int32 × Mem)) (x1 : Int32) (x2 : Int32) (x3 : Int32) (x4 : Int32) (x5 : Int32) (x6 : Int32) (x7 : Int32) (x8 : Int32) (σ : Mem) : Option (Int32 × Mem) :=
  f_X5_mostMeal_62 k9 x1 x2 x3 x4 x5 x6 x7 x8 (0 : Int32) σ
def f_X5_mostMeal_9 (k9 : Int32 → Int32 → Int32 → Int32 → Int32 → Int32 → Int32 → Mem → Option (Int32 × Mem)) (x1 : Int32) (x2 : Int32) (x3 : Int32) (x4 : Int32) (x5 : Int32) (x6 : Int32) (x7 : Int32) (σ : Mem) : Option (Int32 × Mem) :=
  if (8 : Int32) ≤ x7 then
    (some (x6, σ))
  else
    gd (im (gI σ 41 6)) <|
    bd (f_X3_hourBy ((gI σ 41 6).toNatClampNeg) x1 x7 x2 x3 σ) fun r_3 σ_4 =>
    if ((x4 >>> (x7 &&& 31)) &&& (1 : Int32)) = (1 : Int32) then
      (bd (f_X3_isBurnt r_3 σ_4) fun r_7 σ_8 =>
      if r_7 = 0 then
        (bd (f_X3_isAway r_3 σ_8) fun r_11 σ_12 =>
        if r_11 = 0 then
          (f_X5_mostMeal_62 k9 x1 x2 x3 x4 x5 x6 x7 r_3 (1 : Int32) σ_12)
        else
          f_X5_mostMeal_61 k9 x1 x2 x3 x4 x5 x6 x7 r_3 σ_12)
      else
        f_X5_mostMeal_61 k9 x1 x2 x3 x4 x5 x6 x7 r_3 σ_8)
    else
      f_X5_mostMeal_61 k9 x1 x2 x3 x4 x5 x6 x7 r_3 σ_4
def f_X5_mostMeal (p1 : Int32) (p2 : Int32) (p3 : Int32) (p4 : Int32) (σ : Mem) : Option (Int32 × Mem) :=
  fx8 (f_X5_mostMeal_9) FU p1 p2 p3 p4 (-1 : Int32) (0 : Int32) (0 : Int32) σ
set_option maxHeartbeats 4000000 in
set_option maxRecDepth 100000 in
theorem w_X5_mostMeal_90 {p : Program} {l : Launch} {e : Env} {s : State} {m : MethodId} {args : Array Value} {below : List Frame} {meth : Method} {c : Code} {E : EV} {rr : Int32} {τ : Mem} (C : Cx E p s m args meth c cX5_mostMeal 10 (some .int) RX5) (k9 : Int32 → Int32 → Int32 → Int32 → Int32 → Int32 → Int32 → Mem → Option (Int32 × Mem)) (hk9 : ∀ (x1 : Int32) (x2 : Int32) (x3 : Int32) (x4 : Int32) (x5 : Int32) (x6 : Int32) (x7 : Int32) (σ : Mem) (H : Heap) (locs : List Loc) (ls : Array Slot) (hw : Wd TC E σ s H locs) (hl : lv_has ls 10 [(0, .ref (E.2.1 (41))), (1, .int x1), (2, .int x2), (3, .int x3), (4, .int x4), (5, .int x5), (6, .int x6), (7, .int x7)]) (h : k9 x1 x2 x3 x4 x5 x6 x7 σ = some (rr, τ)), W p l e { frames := 3, cells := 0, slots := 0, locals := 79 } s m args below meth c H locs 0 0 (MQ below (QI TC E rr τ) args s 0 0 E.2.2.1) (F0 m 9 ls [])) : ∀ (x1 : Int32) (x2 : Int32) (x3 : Int32) (x4 : Int32) (x5 : Int32) (x6 : Int32) (x7 : Int32) (σ : Mem) (H : Heap) (locs : List Loc) (ls : Array Slot) (hw : Wd TC E σ s H locs) (hl : lv_has ls 10 [(0, .ref (E.2.1 (41))), (1, .int x1), (2, .int x2), (3, .int x3), (4, .int x4), (5, .int x5), (6, .int x6), (7, .int x7)]) (h : f_X5_mostMeal_90 k9 x1 x2 x3 x4 x5 x6 x7 σ = some (rr, τ)), W p l e { frames := 3, cells := 0, slots := 0, locals := 79 } s m args below meth c H locs 0 0 (MQ below (QI TC E rr τ) args s 0 0 E.2.2.1) (F0 m 90 ls []) := by
  obtain ⟨hx, hb, hml, hown, hts, hK, hSt, hlk, hr⟩ := id C
  intro x1 x2 x3 x4 x5 x6 x7 σ H locs ls hw hl h
  unfold f_X5_mostMeal_90 at h
  obtain ⟨x7_23, ex7_23, h⟩ := lt_at h
  refine lv_iinc (v := x7_23) (lv' := [(7, .int x7_23), (0, .ref (E.2.1 (41))), (1, .int x1), (2, .int x2), (3, .int x3), (4, .int x4), (5, .int x5), (6, .int x6)]) hx hb dX5_mostMeal_90 hl (k := 7) rfl (by rw [ex7_23]; rfl) (by decide) rfl (fun ls hl => ?_)
  refine lv_goto (tgt := 9) hx hb dX5_mostMeal_93 (by decide) ?_
  exact hk9 _ _ _ _ _ _ _ _ _ _ _ hw (lv_sub hl [1, 2, 3, 4, 5, 6, 7, 0] rfl) h
set_option maxHeartbeats 4000000 in
set_option maxRecDepth 100000 in
theorem w_X5_mostMeal_62 {p : Program} {l : Launch} {e : Env} {s : State} {m : MethodId} {args : Array Value} {below : List Frame} {meth : Method} {c : Code} {E : EV} {rr : Int32} {τ : Mem} (C : Cx E p s m args meth c cX5_mostMeal 10 (some .int) RX5) (k9 : Int32 → Int32 → Int32 → Int32 → Int32 → Int32 → Int32 → Mem → Option (Int32 × Mem)) (hk9 : ∀ (x1 : Int32) (x2 : Int32) (x3 : Int32) (x4 : Int32) (x5 : Int32) (x6 : Int32) (x7 : Int32) (σ : Mem) (H : Heap) (locs : List Loc) (ls : Array Slot) (hw : Wd TC E σ s H locs) (hl : lv_has ls 10 [(0, .ref (E.2.1 (41))), (1, .int x1), (2, .int x2), (3, .int x3), (4, .int x4), (5, .int x5), (6, .int x6), (7, .int x7)]) (h : k9 x1 x2 x3 x4 x5 x6 x7 σ = some (rr, τ)), W p l e { frames := 3, cells := 0, slots := 0, locals := 79 } s m args below meth c H locs 0 0 (MQ below (QI TC E rr τ) args s 0 0 E.2.2.1) (F0 m 9 ls [])) : ∀ (x1 : Int32) (x2 : Int32) (x3 : Int32) (x4 : Int32) (x5 : Int32) (x6 : Int32) (x7 : Int32) (x8 : Int32) (s0 : Int32) (σ : Mem) (H : Heap) (locs : List Loc) (ls : Array Slot) (hw : Wd TC E σ s H locs) (hl : lv_has ls 10 [(0, .ref (E.2.1 (41))), (1, .int x1), (2, .int x2), (3, .int x3), (4, .int x4), (5, .int x5), (6, .int x6), (7, .int x7), (8, .int x8)]) (h : f_X5_mostMeal_62 k9 x1 x2 x3 x4 x5 x6 x7 x8 s0 σ = some (rr, τ)), W p l e { frames := 3, cells := 0, slots := 0, locals := 79 } s m args below meth c H locs 0 0 (MQ below (QI TC E rr τ) args s 0 0 E.2.2.1) (F0 m 62 ls [.int s0]) := by
  obtain ⟨hx, hb, hml, hown, hts, hK, hSt, hlk, hr⟩ := id C
  intro x1 x2 x3 x4 x5 x6 x7 x8 s0 σ H locs ls hw hl h
  unfold f_X5_mostMeal_62 at h
  refine lv_istore (lv' := [(9, .int s0), (0, .ref (E.2.1 (41))), (1, .int x1), (2, .int x2), (3, .int x3), (4, .int x4), (5, .int x5), (6, .int x6), (7, .int x7), (8, .int x8)]) hx hb dX5_mostMeal_62 hl (by decide) rfl (fun ls hl => ?_)
  refine lv_iload hx hb dX5_mostMeal_64 (lv_at hl 0 rfl) ?_
  refine lv_if_eq (tgt := 90) hx hb dX5_mostMeal_66 (by decide) (fun c_15 => ?_) (fun c_15 => ?_)
  · replace h := it_at h c_15
    exact w_X5_mostMeal_90 C _ hk9 _ _ _ _ _ _ _ _ _ _ _ hw (lv_sub hl [1, 2, 3, 4, 5, 6, 7, 8] rfl) h
  · replace h := ie_at h c_15
    refine lv_iload hx hb dX5_mostMeal_69 (lv_at hl 9 rfl) ?_
    obtain ⟨r_16, σ_17, h_18, h⟩ := bd_at h
    refine q_afterI hw (q_runS C hw hl.1 (As := [.int x8]) (rest := []) (m_X3_mealOf l E x8 σ r_16 σ_17 h_18) yq_X3_mealOf kw_761 ⟨Nat.le_of_ble_eq_true rfl, Nat.le_of_ble_eq_true rfl⟩ rfl (Nat.le_of_ble_eq_true rfl) ⟨Nat.zero_le _, Nat.zero_le _⟩ dX5_mostMeal_71) (fun H locs hw => ?_)
    refine lv_iload hx hb dX5_mostMeal_74 (lv_at hl 6 rfl) ?_
    refine lv_icmp_le (tgt := 90) hx hb dX5_mostMeal_76 (by decide) (fun c_19 => ?_) (fun c_19 => ?_)
    · replace h := it_at h c_19
      exact w_X5_mostMeal_90 C _ hk9 _ _ _ _ _ _ _ _ _ _ _ hw (lv_sub hl [1, 2, 3, 4, 5, 6, 7, 8] rfl) h
    · replace h := ie_at h c_19
      refine lv_iload hx hb dX5_mostMeal_79 (lv_at hl 9 rfl) ?_
      obtain ⟨r_20, σ_21, h_22, h⟩ := bd_at h
      refine q_afterI hw (q_runS C hw hl.1 (As := [.int x8]) (rest := []) (m_X3_mealOf l E x8 σ_17 r_20 σ_21 h_22) yq_X3_mealOf kw_761 ⟨Nat.le_of_ble_eq_true rfl, Nat.le_of_ble_eq_true rfl⟩ rfl (Nat.le_of_ble_eq_true rfl) ⟨Nat.zero_le _, Nat.zero_le _⟩ dX5_mostMeal_81) (fun H locs hw => ?_)
      refine lv_istore (lv' := [(5, .int r_20), (9, .int s0), (0, .ref (E.2.1 (41))), (1, .int x1), (2, .int x2), (3, .int x3), (4, .int x4), (6, .int x6), (7, .int x7), (8, .int x8)]) hx hb dX5_mostMeal_84 hl (by decide) rfl (fun ls hl => ?_)
      refine lv_iload hx hb dX5_mostMeal_86 (lv_at hl 8 rfl) ?_
      refine lv_istore (lv' := [(6, .int x7), (5, .int r_20), (9, .int s0), (0, .ref (E.2.1 (41))), (1, .int x1), (2, .int x2), (3, .int x3), (4, .int x4), (7, .int x7), (8, .int x8)]) hx hb dX5_mostMeal_88 hl (by decide) rfl (fun ls hl => ?_)
      exact w_X5_mostMeal_90 C _ hk9 _ _ _ _ _ _ _ _ _ _ _ hw (lv_sub hl [3, 4, 5, 6, 7, 1, 0, 8] rfl) h
set_option maxHeartbeats 4000000 in
set_option maxRecDepth 100000 in
theorem w_X5_mostMeal_61 {p : Program} {l : Launch} {e : Env} {s : State} {m : MethodId} {args : Array Value} {below : List Frame} {meth : Method} {c : Code} {E : EV} {rr : Int32} {τ : Mem} (C : Cx E p s m args meth c cX5_mostMeal 10 (some .int) RX5) (k9 : Int32 → Int32 → Int32 → Int32 → Int32 → Int32 → Int32 → Mem → Option (Int32 × Mem)) (hk9 : ∀ (x1 : Int32) (x2 : Int32) (x3 : Int32) (x4 : Int32) (x5 : Int32) (x6 : Int32) (x7 : Int32) (σ : Mem) (H : Heap) (locs : List Loc) (ls : Array Slot) (hw : Wd TC E σ s H locs) (hl : lv_has ls 10 [(0, .ref (E.2.1 (41))), (1, .int x1), (2, .int x2), (3, .int x3), (4, .int x4), (5, .int x5), (6, .int x6), (7, .int x7)]) (h : k9 x1 x2 x3 x4 x5 x6 x7 σ = some (rr, τ)), W p l e { frames := 3, cells := 0, slots := 0, locals := 79 } s m args below meth c H locs 0 0 (MQ below (QI TC E rr τ) args s 0 0 E.2.2.1) (F0 m 9 ls [])) : ∀ (x1 : Int32) (x2 : Int32) (x3 : Int32) (x4 : Int32) (x5 : Int32) (x6 : Int32) (x7 : Int32) (x8 : Int32) (σ : Mem) (H : Heap) (locs : List Loc) (ls : Array Slot) (hw : Wd TC E σ s H locs) (hl : lv_has ls 10 [(0, .ref (E.2.1 (41))), (1, .int x1), (2, .int x2), (3, .int x3), (4, .int x4), (5, .int x5), (6, .int x6), (7, .int x7), (8, .int x8)]) (h : f_X5_mostMeal_61 k9 x1 x2 x3 x4 x5 x6 x7 x8 σ = some (rr, τ)), W p l e { frames := 3, cells := 0, slots := 0, locals := 79 } s m args below meth c H locs 0 0 (MQ below (QI TC E rr τ) args s 0 0 E.2.2.1) (F0 m 61 ls []) := by
  obtain ⟨hx, hb, hml, hown, hts, hK, hSt, hlk, hr⟩ := id C
  intro x1 x2 x3 x4 x5 x6 x7 x8 σ H locs ls hw hl h
  unfold f_X5_mostMeal_61 at h
  refine lv_iconst (v := 0) hx hb dX5_mostMeal_61 (by decide) ?_
  exact w_X5_mostMeal_62 C _ hk9 _ _ _ _ _ _ _ _ _ _ _ _ _ hw (lv_sub hl [0, 1, 2, 3, 4, 5, 6, 7, 8] rfl) h
set_option maxHeartbeats 4000000 in
set_option maxRecDepth 100000 in
theorem w_X5_mostMeal_9 {p : Program} {l : Launch} {e : Env} {s : State} {m : MethodId} {args : Array Value} {below : List Frame} {meth : Method} {c : Code} {E : EV} {rr : Int32} {τ : Mem} (C : Cx E p s m args meth c cX5_mostMeal 10 (some .int) RX5) : ∀ (n : Nat) (x1 : Int32) (x2 : Int32) (x3 : Int32) (x4 : Int32) (x5 : Int32) (x6 : Int32) (x7 : Int32) (σ : Mem) (H : Heap) (locs : List Loc) (ls : Array Slot) (hw : Wd TC E σ s H locs) (hl : lv_has ls 10 [(0, .ref (E.2.1 (41))), (1, .int x1), (2, .int x2), (3, .int x3), (4, .int x4), (5, .int x5), (6, .int x6), (7, .int x7)]) (h : fx8 (f_X5_mostMeal_9) n x1 x2 x3 x4 x5 x6 x7 σ = some (rr, τ)), W p l e { frames := 3, cells := 0, slots := 0, locals := 79 } s m args below meth c H locs 0 0 (MQ below (QI TC E rr τ) args s 0 0 E.2.2.1) (F0 m 9 ls []) := by
  obtain ⟨hx, hb, hml, hown, hts, hK, hSt, hlk, hr⟩ := id C
  intro n
  induction n with
  | zero =>
    intro x1 x2 x3 x4 x5 x6 x7 σ H locs ls hw hl h
    have h : none = some (rr, τ) := h
    cases h
  | succ n hk9 =>
    intro x1 x2 x3 x4 x5 x6 x7 σ H locs ls hw hl h
    replace h : f_X5_mostMeal_9 (fx8 (f_X5_mostMeal_9) n) x1 x2 x3 x4 x5 x6 x7 σ = some (rr, τ) := h
    unfold f_X5_mostMeal_9 at h
    refine lv_iload hx hb dX5_mostMeal_9 (lv_at hl 7 rfl) ?_
    refine lv_bipush (v := 8) hx hb dX5_mostMeal_11 (by decide) ?_
    refine lv_icmp_ge (tgt := 96) hx hb dX5_mostMeal_13 (by decide) (fun c_1 => ?_) (fun c_1 => ?_)
    · replace h := it_at h c_1
      refine lv_iload hx hb dX5_mostMeal_96 (lv_at hl 6 rfl) ?_
      obtain ⟨rfl, rfl⟩ := ret_at h
      exact q_iret C hw dX5_mostMeal_98
    · replace h := ie_at h c_1
      refine lv_aload_n hx hb dX5_mostMeal_16 rfl (lv_at hl 0 rfl) ?_
      obtain ⟨g_2, h⟩ := gd_at h
      refine gm_5_6 C hw tC_41 kw_298 g_2 dX5_mostMeal_17 ?_
      refine lv_iload_n hx hb dX5_mostMeal_20 rfl (lv_at hl 1 rfl) ?_
      refine lv_iload hx hb dX5_mostMeal_21 (lv_at hl 7 rfl) ?_
      refine lv_iload_n hx hb dX5_mostMeal_23 rfl (lv_at hl 2 rfl) ?_
      refine lv_iload_n hx hb dX5_mostMeal_24 rfl (lv_at hl 3 rfl) ?_
      obtain ⟨r_3, σ_4, h_5, h⟩ := bd_at h
      refine q_afterI hw (q_runV C hw hl.1 (As := [.int x1, .int x7, .int x2, .int x3]) (rest := []) (m_X3_hourBy l E ((gI σ 41 6).toNatClampNeg) ((im_at g_2).1) x1 x7 x2 x3 σ r_3 σ_4 h_5) yq_X3_hourBy (mo_T (im_at g_2).1).1 rfl rfl kw_758 ⟨Nat.le_of_ble_eq_true rfl, Nat.le_of_ble_eq_true rfl⟩ rfl (Nat.le_of_ble_eq_true rfl) ⟨Nat.zero_le _, Nat.zero_le _⟩ dX5_mostMeal_25) (fun H locs hw => ?_)
      refine lv_istore (lv' := [(8, .int r_3), (0, .ref (E.2.1 (41))), (1, .int x1), (2, .int x2), (3, .int x3), (4, .int x4), (5, .int x5), (6, .int x6), (7, .int x7)]) hx hb dX5_mostMeal_28 hl (by decide) rfl (fun ls hl => ?_)
      refine lv_iload hx hb dX5_mostMeal_30 (lv_at hl 5 rfl) ?_
      refine lv_iload hx hb dX5_mostMeal_32 (lv_at hl 8 rfl) ?_
      refine lv_ishr hx hb dX5_mostMeal_34 ?_
      refine lv_iconst (v := 1) hx hb dX5_mostMeal_35 (by decide) ?_
      refine lv_iand hx hb dX5_mostMeal_36 ?_
      refine lv_iconst (v := 1) hx hb dX5_mostMeal_37 (by decide) ?_
      refine lv_icmp_ne (tgt := 61) hx hb dX5_mostMeal_38 (by decide) (fun c_6 => ?_) (fun c_6 => ?_)
      · replace h := ie_at h c_6
        exact w_X5_mostMeal_61 C _ hk9 _ _ _ _ _ _ _ _ _ _ _ _ hw (lv_sub hl [1, 2, 3, 4, 5, 6, 7, 8, 0] rfl) h
      · replace h := it_at h c_6
        refine lv_iload hx hb dX5_mostMeal_41 (lv_at hl 0 rfl) ?_
        obtain ⟨r_7, σ_8, h_9, h⟩ := bd_at h
        refine q_afterI hw (q_runS C hw hl.1 (As := [.int r_3]) (rest := []) (m_X3_isBurnt l E r_3 σ_4 r_7 σ_8 h_9) yq_X3_isBurnt kw_759 ⟨Nat.le_of_ble_eq_true rfl, Nat.le_of_ble_eq_true rfl⟩ rfl (Nat.le_of_ble_eq_true rfl) ⟨Nat.zero_le _, Nat.zero_le _⟩ dX5_mostMeal_43) (fun H locs hw => ?_)
        refine lv_if_ne (tgt := 61) hx hb dX5_mostMeal_46 (by decide) (fun c_10 => ?_) (fun c_10 => ?_)
        · replace h := ie_at h c_10
          exact w_X5_mostMeal_61 C _ hk9 _ _ _ _ _ _ _ _ _ _ _ _ hw (lv_sub hl [1, 2, 3, 4, 5, 6, 7, 8, 0] rfl) h
        · replace h := it_at h c_10
          refine lv_iload hx hb dX5_mostMeal_49 (lv_at hl 0 rfl) ?_
          obtain ⟨r_11, σ_12, h_13, h⟩ := bd_at h
          refine q_afterI hw (q_runS C hw hl.1 (As := [.int r_3]) (rest := []) (m_X3_isAway l E r_3 σ_8 r_11 σ_12 h_13) yq_X3_isAway kw_760 ⟨Nat.le_of_ble_eq_true rfl, Nat.le_of_ble_eq_true rfl⟩ rfl (Nat.le_of_ble_eq_true rfl) ⟨Nat.zero_le _, Nat.zero_le _⟩ dX5_mostMeal_51) (fun H locs hw => ?_)
          refine lv_if_ne (tgt := 61) hx hb dX5_mostMeal_54 (by decide) (fun c_14 => ?_) (fun c_14 => ?_)
          · replace h := ie_at h c_14
            exact w_X5_mostMeal_61 C _ hk9 _ _ _ _ _ _ _ _ _ _ _ _ hw (lv_sub hl [1, 2, 3, 4, 5, 6, 7, 8, 0] rfl) h
          · replace h := it_at h c_14
            refine lv_iconst (v := 1) hx hb dX5_mostMeal_57 (by decide) ?_
            refine lv_goto (tgt := 62) hx hb dX5_mostMeal_58 (by decide) ?_
            exact w_X5_mostMeal_62 C _ hk9 _ _ _ _ _ _ _ _ _ _ _ _ _ hw (lv_sub hl [1, 2, 3, 4, 5, 6, 7, 8, 0] rfl) h
set_option maxHeartbeats 4000000 in
set_option maxRecDepth 100000 in
theorem m_X5_mostMeal (l : Launch) (E : EV) (p1 : Int32) (p2 : Int32) (p3 : Int32) (p4 : Int32) (σ : Mem) (rr : Int32) (τ : Mem) (h : f_X5_mostMeal p1 p2 p3 p4 σ = some (rr, τ)) : MI TC l E yX5_mostMeal cX5_mostMeal 10 (some .int) 3 79 [.ref (E.2.1 (41)), .int p1, .int p2, .int p3, .int p4] σ rr τ := by
  refine mt_start RX5 (by decide +kernel) rfl (Nat.le_of_ble_eq_true rfl) (fun p e s m args below meth c ls C hw hl => ?_)
  replace hl : lv_has ls 10 [(0, .ref (E.2.1 (41))), (1, .int p1), (2, .int p2), (3, .int p3), (4, .int p4)] := hl
  obtain ⟨hx, hb, hml, hown, hts, hK, hSt, hlk, hr⟩ := id C
  unfold f_X5_mostMeal at h
  refine lv_iconst (v := (-1)) hx hb dX5_mostMeal_0 (by decide) ?_
  refine lv_istore (lv' := [(5, .int (-1 : Int32)), (0, .ref (E.2.1 (41))), (1, .int p1), (2, .int p2), (3, .int p3), (4, .int p4)]) hx hb dX5_mostMeal_1 hl (by decide) rfl (fun ls hl => ?_)
  refine lv_iconst (v := 0) hx hb dX5_mostMeal_3 (by decide) ?_
  refine lv_istore (lv' := [(6, .int (0 : Int32)), (5, .int (-1 : Int32)), (0, .ref (E.2.1 (41))), (1, .int p1), (2, .int p2), (3, .int p3), (4, .int p4)]) hx hb dX5_mostMeal_4 hl (by decide) rfl (fun ls hl => ?_)
  refine lv_iconst (v := 0) hx hb dX5_mostMeal_6 (by decide) ?_
  refine lv_istore (lv' := [(7, .int (0 : Int32)), (6, .int (0 : Int32)), (5, .int (-1 : Int32)), (0, .ref (E.2.1 (41))), (1, .int p1), (2, .int p2), (3, .int p3), (4, .int p4)]) hx hb dX5_mostMeal_7 hl (by decide) rfl (fun ls hl => ?_)
  exact w_X5_mostMeal_9 C _ _ _ _ _ _ _ _ _ _ _ _ hw (lv_sub hl [3, 4, 5, 6, 7, 2, 1, 0] rfl) h
def f_X5_worthOf_96 (rc : Int32 → Int32 → Int32 → Int32 → Mem → Option (Int32 × Mem)) (k31 : Int32 → Int32 → Int32 → Int64 → Int32 → Mem → Option (Int32 × Mem)) (x1 : Int32) (x2 : Int32) (x6 : Int32) (x7 : Int64) (x9 : Int32) (σ : Mem) : Option (Int32 × Mem) :=
  lt (x9 + (1 : Int32)) fun x9_29 =>
  k31 x1 x2 x6 x7 x9_29 σ
def f_X5_worthOf_102 (rc : Int32 → Int32 → Int32 → Int32 → Mem → Option (Int32 × Mem)) (x6 : Int32) (x7 : Int64) (σ : Mem) : Option (Int32 × Mem) :=
  bd (f_X3_mealOf x6 σ) fun r_26 σ_27 =>
  some ((r_26 * (1000 : Int32)) + ((x7 / (1000 : Int64)).toInt32), σ_27)
def f_X5_worthOf_31 (rc : Int32 → Int32 → Int32 → Int32 → Mem → Option (Int32 × Mem)) (k31 : Int32 → Int32 → Int32 → Int64 → Int32 → Mem → Option (Int32 × Mem)) (x1 : Int32) (x2 : Int32) (x6 : Int32) (x7 : Int64) (x9 : Int32) (σ : Mem) : Option (Int32 × Mem) :=
  if (6 : Int32) ≤ x9 then
    (f_X5_worthOf_102 rc x6 x7 σ)
  else
    if x1 ≤ (1 : Int32) then
      (f_X5_worthOf_102 rc x6 x7 σ)
    else
      gd (decide (gI σ 41 7 = nI 5)) <|
      bd (f_X10_chanceOf x2 x9 σ) fun r_12 σ_13 =>
      if r_12 ≤ 0 then
        (f_X5_worthOf_96 rc k31 x1 x2 x6 x7 x9 σ_13)
      else
        bd (f_X3_heatOf x6 σ_13) fun r_16 σ_17 =>
        bd (f_X3_dullOf x6 σ_17) fun r_19 σ_20 =>
        bd (rc (x1 - (1 : Int32)) x9 r_16 r_19 σ_20) fun r_22 σ_23 =>
        lt (x7 + ((r_12.toInt64) * ((r_22 / (8 : Int32)).toInt64))) fun x7_25 =>
        f_X5_worthOf_96 rc k31 x1 x2 x6 x7_25 x9 σ_23
def f_X5_worthOf (rc : Int32 → Int32 → Int32 → Int32 → Mem → Option (Int32 × Mem)) (p1 : Int32) (p2 : Int32) (p3 : Int32) (p4 : Int32) (p5 : Int32) (σ : Mem) : Option (Int32 × Mem) :=
  gd (im (gI σ 41 6)) <|
  bd (f_X3_hourBy ((gI σ 41 6).toNatClampNeg) p2 p3 p4 p5 σ) fun r_2 σ_3 =>
  bd (f_X3_isAway r_2 σ_3) fun r_5 σ_6 =>
  if r_5 = 0 then
    (fx6 (f_X5_worthOf_31 rc) FU p1 p2 r_2 (0 : Int64) (0 : Int32) σ_6)
  else
    some ((0 : Int32), σ_6)
set_option maxHeartbeats 4000000 in
set_option maxRecDepth 100000 in
theorem w_X5_worthOf_96 {p : Program} {l : Launch} {e : Env} {s : State} {m : MethodId} {args : Array Value} {below : List Frame} {meth : Method} {c : Code} {E : EV} {rr : Int32} {τ : Mem} (C : Cx E p s m args meth c cX5_worthOf 12 (some .int) RX5) {rc : Int32 → Int32 → Int32 → Int32 → Mem → Option (Int32 × Mem)} {fr lo : Nat} (hF : 40 ≤ fr) (hL : 1200 ≤ lo) (hrc : ∀ (p1 : Int32) (p2 : Int32) (p3 : Int32) (p4 : Int32) (σ : Mem) (rr : Int32) (τ : Mem), rc p1 p2 p3 p4 σ = some (rr, τ) → MI TC l E yX5_bestFrom cX5_bestFrom 6 (some .int) fr lo [.ref (E.2.1 (41)), .int p1, .int p2, .int p3, .int p4] σ rr τ) (k31 : Int32 → Int32 → Int32 → Int64 → Int32 → Mem → Option (Int32 × Mem)) (hk31 : ∀ (x1 : Int32) (x2 : Int32) (x6 : Int32) (x7 : Int64) (x9 : Int32) (σ : Mem) (H : Heap) (locs : List Loc) (ls : Array Slot) (hw : Wd TC E σ s H locs) (hl : lv_has ls 12 [(0, .ref (E.2.1 (41))), (1, .int x1), (2, .int x2), (6, .int x6), (7, .long x7), (9, .int x9)]) (h : k31 x1 x2 x6 x7 x9 σ = some (rr, τ)), W p l e { frames := fr + 1, cells := 0, slots := 0, locals := lo + 25 } s m args below meth c H locs 0 0 (MQ below (QI TC E rr τ) args s 0 0 E.2.2.1) (F0 m 31 ls [])) : ∀ (x1 : Int32) (x2 : Int32) (x6 : Int32) (x7 : Int64) (x9 : Int32) (σ : Mem) (H : Heap) (locs : List Loc) (ls : Array Slot) (hw : Wd TC E σ s H locs) (hl : lv_has ls 12 [(0, .ref (E.2.1 (41))), (1, .int x1), (2, .int x2), (6, .int x6), (7, .long x7), (9, .int x9)]) (h : f_X5_worthOf_96 rc k31 x1 x2 x6 x7 x9 σ = some (rr, τ)), W p l e { frames := fr + 1, cells := 0, slots := 0, locals := lo + 25 } s m args below meth c H locs 0 0 (MQ below (QI TC E rr τ) args s 0 0 E.2.2.1) (F0 m 96 ls []) := by
  obtain ⟨hx, hb, hml, hown, hts, hK, hSt, hlk, hr⟩ := id C
  intro x1 x2 x6 x7 x9 σ H locs ls hw hl h
  unfold f_X5_worthOf_96 at h
  obtain ⟨x9_29, ex9_29, h⟩ := lt_at h
  refine lv_iinc (v := x9_29) (lv' := [(9, .int x9_29), (0, .ref (E.2.1 (41))), (1, .int x1), (2, .int x2), (6, .int x6), (7, .long x7)]) hx hb dX5_worthOf_96 hl (k := 5) rfl (by rw [ex9_29]; rfl) (by decide) rfl (fun ls hl => ?_)
  refine lv_goto (tgt := 31) hx hb dX5_worthOf_99 (by decide) ?_
  exact hk31 _ _ _ _ _ _ _ _ _ hw (lv_sub hl [1, 2, 3, 4, 5, 0] rfl) h
set_option maxHeartbeats 4000000 in
set_option maxRecDepth 100000 in
theorem w_X5_worthOf_102 {p : Program} {l : Launch} {e : Env} {s : State} {m : MethodId} {args : Array Value} {below : List Frame} {meth : Method} {c : Code} {E : EV} {rr : Int32} {τ : Mem} (C : Cx E p s m args meth c cX5_worthOf 12 (some .int) RX5) {rc : Int32 → Int32 → Int32 → Int32 → Mem → Option (Int32 × Mem)} {fr lo : Nat} (hF : 40 ≤ fr) (hL : 1200 ≤ lo) (hrc : ∀ (p1 : Int32) (p2 : Int32) (p3 : Int32) (p4 : Int32) (σ : Mem) (rr : Int32) (τ : Mem), rc p1 p2 p3 p4 σ = some (rr, τ) → MI TC l E yX5_bestFrom cX5_bestFrom 6 (some .int) fr lo [.ref (E.2.1 (41)), .int p1, .int p2, .int p3, .int p4] σ rr τ) : ∀ (x6 : Int32) (x7 : Int64) (σ : Mem) (H : Heap) (locs : List Loc) (ls : Array Slot) (hw : Wd TC E σ s H locs) (hl : lv_has ls 12 [(0, .ref (E.2.1 (41))), (6, .int x6), (7, .long x7)]) (h : f_X5_worthOf_102 rc x6 x7 σ = some (rr, τ)), W p l e { frames := fr + 1, cells := 0, slots := 0, locals := lo + 25 } s m args below meth c H locs 0 0 (MQ below (QI TC E rr τ) args s 0 0 E.2.2.1) (F0 m 102 ls []) := by
  obtain ⟨hx, hb, hml, hown, hts, hK, hSt, hlk, hr⟩ := id C
  intro x6 x7 σ H locs ls hw hl h
  unfold f_X5_worthOf_102 at h
  refine lv_iload hx hb dX5_worthOf_102 (lv_at hl 1 rfl) ?_
  obtain ⟨r_26, σ_27, h_28, h⟩ := bd_at h
  refine q_afterI hw (q_runS C hw hl.1 (As := [.int x6]) (rest := []) (m_X3_mealOf l E x6 σ r_26 σ_27 h_28) yq_X3_mealOf kw_761 ⟨by dsimp only; omega, by dsimp only; omega⟩ rfl (Nat.le_of_ble_eq_true rfl) ⟨Nat.zero_le _, Nat.zero_le _⟩ dX5_worthOf_104) (fun H locs hw => ?_)
  refine lv_sipush (v := 1000) hx hb dX5_worthOf_107 (by decide) ?_
  refine lv_imul hx hb dX5_worthOf_110 ?_
  refine lv_lload hx hb dX5_worthOf_111 (lv_at hl 2 rfl) ?_
  refine lv_ldc2 hx hb hown (hts _ kw_777) dX5_worthOf_113 ?_
  refine lv_ldiv hx hb dX5_worthOf_116 (by decide) ?_
  refine lv_l2i hx hb dX5_worthOf_117 rfl ?_
  refine lv_iadd hx hb dX5_worthOf_118 ?_
  obtain ⟨rfl, rfl⟩ := ret_at h
  exact q_iret C hw dX5_worthOf_119
set_option maxHeartbeats 4000000 in
set_option maxRecDepth 100000 in
theorem w_X5_worthOf_31 {p : Program} {l : Launch} {e : Env} {s : State} {m : MethodId} {args : Array Value} {below : List Frame} {meth : Method} {c : Code} {E : EV} {rr : Int32} {τ : Mem} (C : Cx E p s m args meth c cX5_worthOf 12 (some .int) RX5) {rc : Int32 → Int32 → Int32 → Int32 → Mem → Option (Int32 × Mem)} {fr lo : Nat} (hF : 40 ≤ fr) (hL : 1200 ≤ lo) (hrc : ∀ (p1 : Int32) (p2 : Int32) (p3 : Int32) (p4 : Int32) (σ : Mem) (rr : Int32) (τ : Mem), rc p1 p2 p3 p4 σ = some (rr, τ) → MI TC l E yX5_bestFrom cX5_bestFrom 6 (some .int) fr lo [.ref (E.2.1 (41)), .int p1, .int p2, .int p3, .int p4] σ rr τ) : ∀ (n : Nat) (x1 : Int32) (x2 : Int32) (x6 : Int32) (x7 : Int64) (x9 : Int32) (σ : Mem) (H : Heap) (locs : List Loc) (ls : Array Slot) (hw : Wd TC E σ s H locs) (hl : lv_has ls 12 [(0, .ref (E.2.1 (41))), (1, .int x1), (2, .int x2), (6, .int x6), (7, .long x7), (9, .int x9)]) (h : fx6 (f_X5_worthOf_31 rc) n x1 x2 x6 x7 x9 σ = some (rr, τ)), W p l e { frames := fr + 1, cells := 0, slots := 0, locals := lo + 25 } s m args below meth c H locs 0 0 (MQ below (QI TC E rr τ) args s 0 0 E.2.2.1) (F0 m 31 ls []) := by
  obtain ⟨hx, hb, hml, hown, hts, hK, hSt, hlk, hr⟩ := id C
  intro n
  induction n with
  | zero =>
    intro x1 x2 x6 x7 x9 σ H locs ls hw hl h
    have h : none = some (rr, τ) := h
    cases h
  | succ n hk31 =>
    intro x1 x2 x6 x7 x9 σ H locs ls hw hl h
    replace h : f_X5_worthOf_31 rc (fx6 (f_X5_worthOf_31 rc) n) x1 x2 x6 x7 x9 σ = some (rr, τ) := h
    unfold f_X5_worthOf_31 at h
    refine lv_iload hx hb dX5_worthOf_31 (lv_at hl 5 rfl) ?_
    refine lv_bipush (v := 6) hx hb dX5_worthOf_33 (by decide) ?_
    refine lv_icmp_ge (tgt := 102) hx hb dX5_worthOf_35 (by decide) (fun c_9 => ?_) (fun c_9 => ?_)
    · replace h := it_at h c_9
      exact w_X5_worthOf_102 C hF hL hrc _ _ _ _ _ _ hw (lv_sub hl [0, 3, 4] rfl) h
    · replace h := ie_at h c_9
      refine lv_iload_n hx hb dX5_worthOf_38 rfl (lv_at hl 1 rfl) ?_
      refine lv_iconst (v := 1) hx hb dX5_worthOf_39 (by decide) ?_
      refine lv_icmp_le (tgt := 102) hx hb dX5_worthOf_40 (by decide) (fun c_10 => ?_) (fun c_10 => ?_)
      · replace h := it_at h c_10
        exact w_X5_worthOf_102 C hF hL hrc _ _ _ _ _ _ hw (lv_sub hl [0, 3, 4] rfl) h
      · replace h := ie_at h c_10
        refine lv_aload_n hx hb dX5_worthOf_43 rfl (lv_at hl 0 rfl) ?_
        obtain ⟨g_11, h⟩ := gd_at h
        refine gf_5_7 C hw tC_41 kw_299 (c1 := 5) (by decide) (of_decide_eq_true g_11) dX5_worthOf_44 ?_
        refine lv_iload_n hx hb dX5_worthOf_47 rfl (lv_at hl 2 rfl) ?_
        refine lv_iload hx hb dX5_worthOf_48 (lv_at hl 5 rfl) ?_
        obtain ⟨r_12, σ_13, h_14, h⟩ := bd_at h
        refine q_afterI hw (q_runV C hw hl.1 (As := [.int x2, .int x9]) (rest := []) (m_X10_chanceOf l E x2 x9 σ r_12 σ_13 h_14) yq_X10_chanceOf tC_5 rfl rfl kw_774 ⟨by dsimp only; omega, by dsimp only; omega⟩ rfl (Nat.le_of_ble_eq_true rfl) ⟨Nat.zero_le _, Nat.zero_le _⟩ dX5_worthOf_50) (fun H locs hw => ?_)
        refine lv_istore (lv' := [(10, .int r_12), (0, .ref (E.2.1 (41))), (1, .int x1), (2, .int x2), (6, .int x6), (7, .long x7), (9, .int x9)]) hx hb dX5_worthOf_53 hl (by decide) rfl (fun ls hl => ?_)
        refine lv_iload hx hb dX5_worthOf_55 (lv_at hl 0 rfl) ?_
        refine lv_if_le (tgt := 96) hx hb dX5_worthOf_57 (by decide) (fun c_15 => ?_) (fun c_15 => ?_)
        · replace h := it_at h c_15
          exact w_X5_worthOf_96 C hF hL hrc _ hk31 _ _ _ _ _ _ _ _ _ hw (lv_sub hl [1, 2, 3, 4, 5, 6] rfl) h
        · replace h := ie_at h c_15
          refine lv_aload_n hx hb dX5_worthOf_60 rfl (lv_at hl 1 rfl) ?_
          refine lv_iload_n hx hb dX5_worthOf_61 rfl (lv_at hl 2 rfl) ?_
          refine lv_iconst (v := 1) hx hb dX5_worthOf_62 (by decide) ?_
          refine lv_isub hx hb dX5_worthOf_63 ?_
          refine lv_iload hx hb dX5_worthOf_64 (lv_at hl 6 rfl) ?_
          refine lv_iload hx hb dX5_worthOf_66 (lv_at hl 4 rfl) ?_
          obtain ⟨r_16, σ_17, h_18, h⟩ := bd_at h
          refine q_afterI hw (q_runS C hw hl.1 (As := [.int x6]) (rest := [.int x9, .int (x1 - (1 : Int32)), .ref (E.2.1 (41))]) (m_X3_heatOf l E x6 σ_13 r_16 σ_17 h_18) yq_X3_heatOf kw_775 ⟨by dsimp only; omega, by dsimp only; omega⟩ rfl (Nat.le_of_ble_eq_true rfl) ⟨Nat.zero_le _, Nat.zero_le _⟩ dX5_worthOf_68) (fun H locs hw => ?_)
          refine lv_iload hx hb dX5_worthOf_71 (lv_at hl 4 rfl) ?_
          obtain ⟨r_19, σ_20, h_21, h⟩ := bd_at h
          refine q_afterI hw (q_runS C hw hl.1 (As := [.int x6]) (rest := [.int r_16, .int x9, .int (x1 - (1 : Int32)), .ref (E.2.1 (41))]) (m_X3_dullOf l E x6 σ_17 r_19 σ_20 h_21) yq_X3_dullOf kw_776 ⟨by dsimp only; omega, by dsimp only; omega⟩ rfl (Nat.le_of_ble_eq_true rfl) ⟨Nat.zero_le _, Nat.zero_le _⟩ dX5_worthOf_73) (fun H locs hw => ?_)
          obtain ⟨r_22, σ_23, h_24, h⟩ := bd_at h
          refine q_afterI hw (q_runV C hw hl.1 (As := [.int (x1 - (1 : Int32)), .int x9, .int r_16, .int r_19]) (rest := []) (hrc (x1 - (1 : Int32)) x9 r_16 r_19 σ_20 r_22 σ_23 h_24) yq_X5_bestFrom tC_41 rfl rfl kw_762 ⟨by dsimp only; omega, by dsimp only; omega⟩ rfl (Nat.le_of_ble_eq_true rfl) ⟨Nat.zero_le _, Nat.zero_le _⟩ dX5_worthOf_76) (fun H locs hw => ?_)
          refine lv_istore (lv' := [(11, .int r_22), (10, .int r_12), (0, .ref (E.2.1 (41))), (1, .int x1), (2, .int x2), (6, .int x6), (7, .long x7), (9, .int x9)]) hx hb dX5_worthOf_79 hl (by decide) rfl (fun ls hl => ?_)
          refine lv_lload hx hb dX5_worthOf_81 (lv_at hl 6 rfl) ?_
          refine lv_iload hx hb dX5_worthOf_83 (lv_at hl 1 rfl) ?_
          refine lv_i2l hx hb dX5_worthOf_85 rfl ?_
          refine lv_iload hx hb dX5_worthOf_86 (lv_at hl 0 rfl) ?_
          refine lv_bipush (v := 8) hx hb dX5_worthOf_88 (by decide) ?_
          refine lv_idiv hx hb dX5_worthOf_90 (by decide) ?_
          refine lv_i2l hx hb dX5_worthOf_91 rfl ?_
          refine lv_lmul hx hb dX5_worthOf_92 ?_
          refine lv_ladd hx hb dX5_worthOf_93 ?_
          obtain ⟨x7_25, ex7_25, h⟩ := lt_at h
          refine q_topl ex7_25 ?_
          refine lv_lstore (lv' := [(7, .long x7_25), (11, .int r_22), (10, .int r_12), (0, .ref (E.2.1 (41))), (1, .int x1), (2, .int x2), (6, .int x6), (9, .int x9)]) hx hb dX5_worthOf_94 hl (by decide) rfl (fun ls hl => ?_)
          exact w_X5_worthOf_96 C hF hL hrc _ hk31 _ _ _ _ _ _ _ _ _ hw (lv_sub hl [3, 4, 5, 6, 0, 7] rfl) h
set_option maxHeartbeats 4000000 in
set_option maxRecDepth 100000 in
theorem m_X5_worthOf (l : Launch) (E : EV) (rc : Int32 → Int32 → Int32 → Int32 → Mem → Option (Int32 × Mem)) {fr lo : Nat} (hF : 40 ≤ fr) (hL : 1200 ≤ lo) (hrc : ∀ (p1 : Int32) (p2 : Int32) (p3 : Int32) (p4 : Int32) (σ : Mem) (rr : Int32) (τ : Mem), rc p1 p2 p3 p4 σ = some (rr, τ) → MI TC l E yX5_bestFrom cX5_bestFrom 6 (some .int) fr lo [.ref (E.2.1 (41)), .int p1, .int p2, .int p3, .int p4] σ rr τ) (p1 : Int32) (p2 : Int32) (p3 : Int32) (p4 : Int32) (p5 : Int32) (σ : Mem) (rr : Int32) (τ : Mem) (h : f_X5_worthOf rc p1 p2 p3 p4 p5 σ = some (rr, τ)) : MI TC l E yX5_worthOf cX5_worthOf 12 (some .int) (fr + 1) (lo + 25) [.ref (E.2.1 (41)), .int p1, .int p2, .int p3, .int p4, .int p5] σ rr τ := by
  refine mt_start RX5 (by decide +kernel) rfl (Nat.le_of_ble_eq_true rfl) (fun p e s m args below meth c ls C hw hl => ?_)
  replace hl : lv_has ls 12 [(0, .ref (E.2.1 (41))), (1, .int p1), (2, .int p2), (3, .int p3), (4, .int p4), (5, .int p5)] := hl
  obtain ⟨hx, hb, hml, hown, hts, hK, hSt, hlk, hr⟩ := id C
  unfold f_X5_worthOf at h
  refine lv_aload_n hx hb dX5_worthOf_0 rfl (lv_at hl 0 rfl) ?_
  obtain ⟨g_1, h⟩ := gd_at h
  refine gm_5_6 C hw tC_41 kw_298 g_1 dX5_worthOf_1 ?_
  refine lv_iload_n hx hb dX5_worthOf_4 rfl (lv_at hl 2 rfl) ?_
  refine lv_iload_n hx hb dX5_worthOf_5 rfl (lv_at hl 3 rfl) ?_
  refine lv_iload hx hb dX5_worthOf_6 (lv_at hl 4 rfl) ?_
  refine lv_iload hx hb dX5_worthOf_8 (lv_at hl 5 rfl) ?_
  obtain ⟨r_2, σ_3, h_4, h⟩ := bd_at h
  refine q_afterI hw (q_runV C hw hl.1 (As := [.int p2, .int p3, .int p4, .int p5]) (rest := []) (m_X3_hourBy l E ((gI σ 41 6).toNatClampNeg) ((im_at g_1).1) p2 p3 p4 p5 σ r_2 σ_3 h_4) yq_X3_hourBy (mo_T (im_at g_1).1).1 rfl rfl kw_758 ⟨by dsimp only; omega, by dsimp only; omega⟩ rfl (Nat.le_of_ble_eq_true rfl) ⟨Nat.zero_le _, Nat.zero_le _⟩ dX5_worthOf_10) (fun H locs hw => ?_)
  refine lv_istore (lv' := [(6, .int r_2), (0, .ref (E.2.1 (41))), (1, .int p1), (2, .int p2), (3, .int p3), (4, .int p4), (5, .int p5)]) hx hb dX5_worthOf_13 hl (by decide) rfl (fun ls hl => ?_)
  refine lv_iload hx hb dX5_worthOf_15 (lv_at hl 0 rfl) ?_
  obtain ⟨r_5, σ_6, h_7, h⟩ := bd_at h
  refine q_afterI hw (q_runS C hw hl.1 (As := [.int r_2]) (rest := []) (m_X3_isAway l E r_2 σ_3 r_5 σ_6 h_7) yq_X3_isAway kw_760 ⟨by dsimp only; omega, by dsimp only; omega⟩ rfl (Nat.le_of_ble_eq_true rfl) ⟨Nat.zero_le _, Nat.zero_le _⟩ dX5_worthOf_17) (fun H locs hw => ?_)
  refine lv_if_eq (tgt := 25) hx hb dX5_worthOf_20 (by decide) (fun c_8 => ?_) (fun c_8 => ?_)
  · replace h := it_at h c_8
    refine lv_lconst (v := 0) hx hb dX5_worthOf_25 (by decide) ?_
    refine lv_lstore (lv' := [(7, .long (0 : Int64)), (6, .int r_2), (0, .ref (E.2.1 (41))), (1, .int p1), (2, .int p2), (3, .int p3), (4, .int p4), (5, .int p5)]) hx hb dX5_worthOf_26 hl (by decide) rfl (fun ls hl => ?_)
    refine lv_iconst (v := 0) hx hb dX5_worthOf_28 (by decide) ?_
    refine lv_istore (lv' := [(9, .int (0 : Int32)), (7, .long (0 : Int64)), (6, .int r_2), (0, .ref (E.2.1 (41))), (1, .int p1), (2, .int p2), (3, .int p3), (4, .int p4), (5, .int p5)]) hx hb dX5_worthOf_29 hl (by decide) rfl (fun ls hl => ?_)
    exact w_X5_worthOf_31 C hF hL hrc _ _ _ _ _ _ _ _ _ _ hw (lv_sub hl [3, 4, 5, 2, 1, 0] rfl) h
  · replace h := ie_at h c_8
    refine lv_iconst (v := 0) hx hb dX5_worthOf_23 (by decide) ?_
    obtain ⟨rfl, rfl⟩ := ret_at h
    exact q_iret C hw dX5_worthOf_24
def f_X5_greatest_59 (rc : Int32 → Int32 → Int32 → Int32 → Mem → Option (Int32 × Mem)) (k9 : Int32 → Int32 → Int32 → Int32 → Int32 → Int32 → Int32 → Int32 → Mem → Option (Int32 × Mem)) (x1 : Int32) (x2 : Int32) (x3 : Int32) (x4 : Int32) (x5 : Int32) (x6 : Int32) (x7 : Int32) (x8 : Int32) (σ : Mem) : Option (Int32 × Mem) :=
  lt (x8 + (1 : Int32)) fun x8_8 =>
  k9 x1 x2 x3 x4 x5 x6 x7 x8_8 σ
def f_X5_greatest_42 (rc : Int32 → Int32 → Int32 → Int32 → Mem → Option (Int32 × Mem)) (k9 : Int32 → Int32 → Int32 → Int32 → Int32 → Int32 → Int32 → Int32 → Mem → Option (Int32 × Mem)) (x1 : Int32) (x2 : Int32) (x3 : Int32) (x4 : Int32) (x5 : Int32) (x6 : Int32) (x7 : Int32) (x8 : Int32) (s0 : Int32) (σ : Mem) : Option (Int32 × Mem) :=
  if s0 ≤ x6 then
    (f_X5_greatest_59 rc k9 x1 x2 x3 x4 x5 x6 x7 x8 σ)
  else
    f_X5_greatest_59 rc k9 x1 x2 x3 x4 x5 s0 x8 x8 σ
def f_X5_greatest_9 (rc : Int32 → Int32 → Int32 → Int32 → Mem → Option (Int32 × Mem)) (k9 : Int32 → Int32 → Int32 → Int32 → Int32 → Int32 → Int32 → Int32 → Mem → Option (Int32 × Mem)) (x1 : Int32) (x2 : Int32) (x3 : Int32) (x4 : Int32) (x5 : Int32) (x6 : Int32) (x7 : Int32) (x8 : Int32) (σ : Mem) : Option (Int32 × Mem) :=
  if (8 : Int32) ≤ x8 then
    (if 0 ≤ x6 then
      (some ((x6 * (8 : Int32)) + x7, σ))
    else
      some ((0 : Int32), σ))
  else
    if ((x5 >>> (x8 &&& 31)) &&& (1 : Int32)) = (1 : Int32) then
      (bd (f_X5_worthOf rc x1 x2 x8 x3 x4 σ) fun r_4 σ_5 =>
      f_X5_greatest_42 rc k9 x1 x2 x3 x4 x5 x6 x7 x8 r_4 σ_5)
    else
      f_X5_greatest_42 rc k9 x1 x2 x3 x4 x5 x6 x7 x8 (-1 : Int32) σ
def f_X5_greatest (rc : Int32 → Int32 → Int32 → Int32 → Mem → Option (Int32 × Mem)) (p1 : Int32) (p2 : Int32) (p3 : Int32) (p4 : Int32) (p5 : Int32) (σ : Mem) : Option (Int32 × Mem) :=
  fx9 (f_X5_greatest_9 rc) FU p1 p2 p3 p4 p5 (-1 : Int32) (0 : Int32) (0 : Int32) σ
set_option maxHeartbeats 4000000 in
set_option maxRecDepth 100000 in
theorem w_X5_greatest_59 {p : Program} {l : Launch} {e : Env} {s : State} {m : MethodId} {args : Array Value} {below : List Frame} {meth : Method} {c : Code} {E : EV} {rr : Int32} {τ : Mem} (C : Cx E p s m args meth c cX5_greatest 10 (some .int) RX5) {rc : Int32 → Int32 → Int32 → Int32 → Mem → Option (Int32 × Mem)} {fr lo : Nat} (hF : 40 ≤ fr) (hL : 1200 ≤ lo) (hrc : ∀ (p1 : Int32) (p2 : Int32) (p3 : Int32) (p4 : Int32) (σ : Mem) (rr : Int32) (τ : Mem), rc p1 p2 p3 p4 σ = some (rr, τ) → MI TC l E yX5_bestFrom cX5_bestFrom 6 (some .int) fr lo [.ref (E.2.1 (41)), .int p1, .int p2, .int p3, .int p4] σ rr τ) (k9 : Int32 → Int32 → Int32 → Int32 → Int32 → Int32 → Int32 → Int32 → Mem → Option (Int32 × Mem)) (hk9 : ∀ (x1 : Int32) (x2 : Int32) (x3 : Int32) (x4 : Int32) (x5 : Int32) (x6 : Int32) (x7 : Int32) (x8 : Int32) (σ : Mem) (H : Heap) (locs : List Loc) (ls : Array Slot) (hw : Wd TC E σ s H locs) (hl : lv_has ls 10 [(0, .ref (E.2.1 (41))), (1, .int x1), (2, .int x2), (3, .int x3), (4, .int x4), (5, .int x5), (6, .int x6), (7, .int x7), (8, .int x8)]) (h : k9 x1 x2 x3 x4 x5 x6 x7 x8 σ = some (rr, τ)), W p l e { frames := fr + 2, cells := 0, slots := 0, locals := lo + 56 } s m args below meth c H locs 0 0 (MQ below (QI TC E rr τ) args s 0 0 E.2.2.1) (F0 m 9 ls [])) : ∀ (x1 : Int32) (x2 : Int32) (x3 : Int32) (x4 : Int32) (x5 : Int32) (x6 : Int32) (x7 : Int32) (x8 : Int32) (σ : Mem) (H : Heap) (locs : List Loc) (ls : Array Slot) (hw : Wd TC E σ s H locs) (hl : lv_has ls 10 [(0, .ref (E.2.1 (41))), (1, .int x1), (2, .int x2), (3, .int x3), (4, .int x4), (5, .int x5), (6, .int x6), (7, .int x7), (8, .int x8)]) (h : f_X5_greatest_59 rc k9 x1 x2 x3 x4 x5 x6 x7 x8 σ = some (rr, τ)), W p l e { frames := fr + 2, cells := 0, slots := 0, locals := lo + 56 } s m args below meth c H locs 0 0 (MQ below (QI TC E rr τ) args s 0 0 E.2.2.1) (F0 m 59 ls []) := by
  obtain ⟨hx, hb, hml, hown, hts, hK, hSt, hlk, hr⟩ := id C
  intro x1 x2 x3 x4 x5 x6 x7 x8 σ H locs ls hw hl h
  unfold f_X5_greatest_59 at h
  obtain ⟨x8_8, ex8_8, h⟩ := lt_at h
  refine lv_iinc (v := x8_8) (lv' := [(8, .int x8_8), (0, .ref (E.2.1 (41))), (1, .int x1), (2, .int x2), (3, .int x3), (4, .int x4), (5, .int x5), (6, .int x6), (7, .int x7)]) hx hb dX5_greatest_59 hl (k := 8) rfl (by rw [ex8_8]; rfl) (by decide) rfl (fun ls hl => ?_)
  refine lv_goto (tgt := 9) hx hb dX5_greatest_62 (by decide) ?_
  exact hk9 _ _ _ _ _ _ _ _ _ _ _ _ hw (lv_sub hl [1, 2, 3, 4, 5, 6, 7, 8, 0] rfl) h
set_option maxHeartbeats 4000000 in
set_option maxRecDepth 100000 in
theorem w_X5_greatest_42 {p : Program} {l : Launch} {e : Env} {s : State} {m : MethodId} {args : Array Value} {below : List Frame} {meth : Method} {c : Code} {E : EV} {rr : Int32} {τ : Mem} (C : Cx E p s m args meth c cX5_greatest 10 (some .int) RX5) {rc : Int32 → Int32 → Int32 → Int32 → Mem → Option (Int32 × Mem)} {fr lo : Nat} (hF : 40 ≤ fr) (hL : 1200 ≤ lo) (hrc : ∀ (p1 : Int32) (p2 : Int32) (p3 : Int32) (p4 : Int32) (σ : Mem) (rr : Int32) (τ : Mem), rc p1 p2 p3 p4 σ = some (rr, τ) → MI TC l E yX5_bestFrom cX5_bestFrom 6 (some .int) fr lo [.ref (E.2.1 (41)), .int p1, .int p2, .int p3, .int p4] σ rr τ) (k9 : Int32 → Int32 → Int32 → Int32 → Int32 → Int32 → Int32 → Int32 → Mem → Option (Int32 × Mem)) (hk9 : ∀ (x1 : Int32) (x2 : Int32) (x3 : Int32) (x4 : Int32) (x5 : Int32) (x6 : Int32) (x7 : Int32) (x8 : Int32) (σ : Mem) (H : Heap) (locs : List Loc) (ls : Array Slot) (hw : Wd TC E σ s H locs) (hl : lv_has ls 10 [(0, .ref (E.2.1 (41))), (1, .int x1), (2, .int x2), (3, .int x3), (4, .int x4), (5, .int x5), (6, .int x6), (7, .int x7), (8, .int x8)]) (h : k9 x1 x2 x3 x4 x5 x6 x7 x8 σ = some (rr, τ)), W p l e { frames := fr + 2, cells := 0, slots := 0, locals := lo + 56 } s m args below meth c H locs 0 0 (MQ below (QI TC E rr τ) args s 0 0 E.2.2.1) (F0 m 9 ls [])) : ∀ (x1 : Int32) (x2 : Int32) (x3 : Int32) (x4 : Int32) (x5 : Int32) (x6 : Int32) (x7 : Int32) (x8 : Int32) (s0 : Int32) (σ : Mem) (H : Heap) (locs : List Loc) (ls : Array Slot) (hw : Wd TC E σ s H locs) (hl : lv_has ls 10 [(0, .ref (E.2.1 (41))), (1, .int x1), (2, .int x2), (3, .int x3), (4, .int x4), (5, .int x5), (6, .int x6), (7, .int x7), (8, .int x8)]) (h : f_X5_greatest_42 rc k9 x1 x2 x3 x4 x5 x6 x7 x8 s0 σ = some (rr, τ)), W p l e { frames := fr + 2, cells := 0, slots := 0, locals := lo + 56 } s m args below meth c H locs 0 0 (MQ below (QI TC E rr τ) args s 0 0 E.2.2.1) (F0 m 42 ls [.int s0]) := by
  obtain ⟨hx, hb, hml, hown, hts, hK, hSt, hlk, hr⟩ := id C
  intro x1 x2 x3 x4 x5 x6 x7 x8 s0 σ H locs ls hw hl h
  unfold f_X5_greatest_42 at h
  refine lv_istore (lv' := [(9, .int s0), (0, .ref (E.2.1 (41))), (1, .int x1), (2, .int x2), (3, .int x3), (4, .int x4), (5, .int x5), (6, .int x6), (7, .int x7), (8, .int x8)]) hx hb dX5_greatest_42 hl (by decide) rfl (fun ls hl => ?_)
  refine lv_iload hx hb dX5_greatest_44 (lv_at hl 0 rfl) ?_
  refine lv_iload hx hb dX5_greatest_46 (lv_at hl 7 rfl) ?_
  refine lv_icmp_le (tgt := 59) hx hb dX5_greatest_48 (by decide) (fun c_7 => ?_) (fun c_7 => ?_)
  · replace h := it_at h c_7
    exact w_X5_greatest_59 C hF hL hrc _ hk9 _ _ _ _ _ _ _ _ _ _ _ _ hw (lv_sub hl [1, 2, 3, 4, 5, 6, 7, 8, 9] rfl) h
  · replace h := ie_at h c_7
    refine lv_iload hx hb dX5_greatest_51 (lv_at hl 0 rfl) ?_
    refine lv_istore (lv' := [(6, .int s0), (9, .int s0), (0, .ref (E.2.1 (41))), (1, .int x1), (2, .int x2), (3, .int x3), (4, .int x4), (5, .int x5), (7, .int x7), (8, .int x8)]) hx hb dX5_greatest_53 hl (by decide) rfl (fun ls hl => ?_)
    refine lv_iload hx hb dX5_greatest_55 (lv_at hl 9 rfl) ?_
    refine lv_istore (lv' := [(7, .int x8), (6, .int s0), (9, .int s0), (0, .ref (E.2.1 (41))), (1, .int x1), (2, .int x2), (3, .int x3), (4, .int x4), (5, .int x5), (8, .int x8)]) hx hb dX5_greatest_57 hl (by decide) rfl (fun ls hl => ?_)
    exact w_X5_greatest_59 C hF hL hrc _ hk9 _ _ _ _ _ _ _ _ _ _ _ _ hw (lv_sub hl [3, 4, 5, 6, 7, 8, 1, 0, 9] rfl) h
set_option maxHeartbeats 4000000 in
set_option maxRecDepth 100000 in
theorem w_X5_greatest_9 {p : Program} {l : Launch} {e : Env} {s : State} {m : MethodId} {args : Array Value} {below : List Frame} {meth : Method} {c : Code} {E : EV} {rr : Int32} {τ : Mem} (C : Cx E p s m args meth c cX5_greatest 10 (some .int) RX5) {rc : Int32 → Int32 → Int32 → Int32 → Mem → Option (Int32 × Mem)} {fr lo : Nat} (hF : 40 ≤ fr) (hL : 1200 ≤ lo) (hrc : ∀ (p1 : Int32) (p2 : Int32) (p3 : Int32) (p4 : Int32) (σ : Mem) (rr : Int32) (τ : Mem), rc p1 p2 p3 p4 σ = some (rr, τ) → MI TC l E yX5_bestFrom cX5_bestFrom 6 (some .int) fr lo [.ref (E.2.1 (41)), .int p1, .int p2, .int p3, .int p4] σ rr τ) : ∀ (n : Nat) (x1 : Int32) (x2 : Int32) (x3 : Int32) (x4 : Int32) (x5 : Int32) (x6 : Int32) (x7 : Int32) (x8 : Int32) (σ : Mem) (H : Heap) (locs : List Loc) (ls : Array Slot) (hw : Wd TC E σ s H locs) (hl : lv_has ls 10 [(0, .ref (E.2.1 (41))), (1, .int x1), (2, .int x2), (3, .int x3), (4, .int x4), (5, .int x5), (6, .int x6), (7, .int x7), (8, .int x8)]) (h : fx9 (f_X5_greatest_9 rc) n x1 x2 x3 x4 x5 x6 x7 x8 σ = some (rr, τ)), W p l e { frames := fr + 2, cells := 0, slots := 0, locals := lo + 56 } s m args below meth c H locs 0 0 (MQ below (QI TC E rr τ) args s 0 0 E.2.2.1) (F0 m 9 ls []) := by
  obtain ⟨hx, hb, hml, hown, hts, hK, hSt, hlk, hr⟩ := id C
  intro n
  induction n with
  | zero =>
    intro x1 x2 x3 x4 x5 x6 x7 x8 σ H locs ls hw hl h
    have h : none = some (rr, τ) := h
    cases h
  | succ n hk9 =>
    intro x1 x2 x3 x4 x5 x6 x7 x8 σ H locs ls hw hl h
    replace h : f_X5_greatest_9 rc (fx9 (f_X5_greatest_9 rc) n) x1 x2 x3 x4 x5 x6 x7 x8 σ = some (rr, τ) := h
    unfold f_X5_greatest_9 at h
    refine lv_iload hx hb dX5_greatest_9 (lv_at hl 8 rfl) ?_
    refine lv_bipush (v := 8) hx hb dX5_greatest_11 (by decide) ?_
    refine lv_icmp_ge (tgt := 65) hx hb dX5_greatest_13 (by decide) (fun c_1 => ?_) (fun c_1 => ?_)
    · replace h := it_at h c_1
      refine lv_iload hx hb dX5_greatest_65 (lv_at hl 6 rfl) ?_
      refine lv_if_ge (tgt := 74) hx hb dX5_greatest_67 (by decide) (fun c_2 => ?_) (fun c_2 => ?_)
      · replace h := it_at h c_2
        refine lv_iload hx hb dX5_greatest_74 (lv_at hl 6 rfl) ?_
        refine lv_bipush (v := 8) hx hb dX5_greatest_76 (by decide) ?_
        refine lv_imul hx hb dX5_greatest_78 ?_
        refine lv_iload hx hb dX5_greatest_79 (lv_at hl 7 rfl) ?_
        refine lv_iadd hx hb dX5_greatest_81 ?_
        obtain ⟨rfl, rfl⟩ := ret_at h
        exact q_iret C hw dX5_greatest_82
      · replace h := ie_at h c_2
        refine lv_iconst (v := 0) hx hb dX5_greatest_70 (by decide) ?_
        refine lv_goto (tgt := 82) hx hb dX5_greatest_71 (by decide) ?_
        obtain ⟨rfl, rfl⟩ := ret_at h
        exact q_iret C hw dX5_greatest_82
    · replace h := ie_at h c_1
      refine lv_iload hx hb dX5_greatest_16 (lv_at hl 5 rfl) ?_
      refine lv_iload hx hb dX5_greatest_18 (lv_at hl 8 rfl) ?_
      refine lv_ishr hx hb dX5_greatest_20 ?_
      refine lv_iconst (v := 1) hx hb dX5_greatest_21 (by decide) ?_
      refine lv_iand hx hb dX5_greatest_22 ?_
      refine lv_iconst (v := 1) hx hb dX5_greatest_23 (by decide) ?_
      refine lv_icmp_ne (tgt := 41) hx hb dX5_greatest_24 (by decide) (fun c_3 => ?_) (fun c_3 => ?_)
      · replace h := ie_at h c_3
        refine lv_iconst (v := (-1)) hx hb dX5_greatest_41 (by decide) ?_
        exact w_X5_greatest_42 C hF hL hrc _ hk9 _ _ _ _ _ _ _ _ _ _ _ _ _ hw (lv_sub hl [0, 1, 2, 3, 4, 5, 6, 7, 8] rfl) h
      · replace h := it_at h c_3
        refine lv_aload_n hx hb dX5_greatest_27 rfl (lv_at hl 0 rfl) ?_
        refine lv_iload_n hx hb dX5_greatest_28 rfl (lv_at hl 1 rfl) ?_
        refine lv_iload_n hx hb dX5_greatest_29 rfl (lv_at hl 2 rfl) ?_
        refine lv_iload hx hb dX5_greatest_30 (lv_at hl 8 rfl) ?_
        refine lv_iload_n hx hb dX5_greatest_32 rfl (lv_at hl 3 rfl) ?_
        refine lv_iload hx hb dX5_greatest_33 (lv_at hl 4 rfl) ?_
        obtain ⟨r_4, σ_5, h_6, h⟩ := bd_at h
        refine q_afterI hw (q_runV C hw hl.1 (As := [.int x1, .int x2, .int x8, .int x3, .int x4]) (rest := []) (m_X5_worthOf l E rc hF hL hrc x1 x2 x8 x3 x4 σ r_4 σ_5 h_6) yq_X5_worthOf tC_41 rfl rfl kw_770 ⟨by dsimp only; omega, by dsimp only; omega⟩ rfl (Nat.le_of_ble_eq_true rfl) ⟨Nat.zero_le _, Nat.zero_le _⟩ dX5_greatest_35) (fun H locs hw => ?_)
        refine lv_goto (tgt := 42) hx hb dX5_greatest_38 (by decide) ?_
        exact w_X5_greatest_42 C hF hL hrc _ hk9 _ _ _ _ _ _ _ _ _ _ _ _ _ hw (lv_sub hl [0, 1, 2, 3, 4, 5, 6, 7, 8] rfl) h
set_option maxHeartbeats 4000000 in
set_option maxRecDepth 100000 in
theorem m_X5_greatest (l : Launch) (E : EV) (rc : Int32 → Int32 → Int32 → Int32 → Mem → Option (Int32 × Mem)) {fr lo : Nat} (hF : 40 ≤ fr) (hL : 1200 ≤ lo) (hrc : ∀ (p1 : Int32) (p2 : Int32) (p3 : Int32) (p4 : Int32) (σ : Mem) (rr : Int32) (τ : Mem), rc p1 p2 p3 p4 σ = some (rr, τ) → MI TC l E yX5_bestFrom cX5_bestFrom 6 (some .int) fr lo [.ref (E.2.1 (41)), .int p1, .int p2, .int p3, .int p4] σ rr τ) (p1 : Int32) (p2 : Int32) (p3 : Int32) (p4 : Int32) (p5 : Int32) (σ : Mem) (rr : Int32) (τ : Mem) (h : f_X5_greatest rc p1 p2 p3 p4 p5 σ = some (rr, τ)) : MI TC l E yX5_greatest cX5_greatest 10 (some .int) (fr + 2) (lo + 56) [.ref (E.2.1 (41)), .int p1, .int p2, .int p3, .int p4, .int p5] σ rr τ := by
  refine mt_start RX5 (by decide +kernel) rfl (Nat.le_of_ble_eq_true rfl) (fun p e s m args below meth c ls C hw hl => ?_)
  replace hl : lv_has ls 10 [(0, .ref (E.2.1 (41))), (1, .int p1), (2, .int p2), (3, .int p3), (4, .int p4), (5, .int p5)] := hl
  obtain ⟨hx, hb, hml, hown, hts, hK, hSt, hlk, hr⟩ := id C
  unfold f_X5_greatest at h
  refine lv_iconst (v := (-1)) hx hb dX5_greatest_0 (by decide) ?_
  refine lv_istore (lv' := [(6, .int (-1 : Int32)), (0, .ref (E.2.1 (41))), (1, .int p1), (2, .int p2), (3, .int p3), (4, .int p4), (5, .int p5)]) hx hb dX5_greatest_1 hl (by decide) rfl (fun ls hl => ?_)
  refine lv_iconst (v := 0) hx hb dX5_greatest_3 (by decide) ?_
  refine lv_istore (lv' := [(7, .int (0 : Int32)), (6, .int (-1 : Int32)), (0, .ref (E.2.1 (41))), (1, .int p1), (2, .int p2), (3, .int p3), (4, .int p4), (5, .int p5)]) hx hb dX5_greatest_4 hl (by decide) rfl (fun ls hl => ?_)
  refine lv_iconst (v := 0) hx hb dX5_greatest_6 (by decide) ?_
  refine lv_istore (lv' := [(8, .int (0 : Int32)), (7, .int (0 : Int32)), (6, .int (-1 : Int32)), (0, .ref (E.2.1 (41))), (1, .int p1), (2, .int p2), (3, .int p3), (4, .int p4), (5, .int p5)]) hx hb dX5_greatest_7 hl (by decide) rfl (fun ls hl => ?_)
  exact w_X5_greatest_9 C hF hL hrc _ _ _ _ _ _ _ _ _ _ _ _ _ hw (lv_sub hl [3, 4, 5, 6, 7, 8, 2, 1, 0] rfl) h
def f_X5_bestFrom_F (rc : Int32 → Int32 → Int32 → Int32 → Mem → Option (Int32 × Mem)) (p1 : Int32) (p2 : Int32) (p3 : Int32) (p4 : Int32) (σ : Mem) : Option (Int32 × Mem) :=
  lt (((((p1 * (6 : Int32)) + p2) * (100 : Int32)) + (p3 * (10 : Int32))) + p4) fun x5_1 =>
  if p1 < (1 : Int32) then
    (some ((0 : Int32), σ))
  else
    if x5_1 < 0 then
      (some ((0 : Int32), σ))
    else
      if x5_1 < (4200 : Int32) then
        (gd (ib x5_1 4200) <|
        if (gI σ 43 x5_1.toNatClampNeg) = (gI σ 41 4) then
          (gd (ib x5_1 4200) <|
          some (gI σ 42 x5_1.toNatClampNeg, σ))
        else
          bd (f_X5_greatest rc p1 p2 p3 p4 (255 : Int32) σ) fun r_8 σ_9 =>
          gd (ib x5_1 4200) <|
          lt (sI σ_9 42 x5_1.toNatClampNeg r_8) fun σ_11 =>
          gd (ib x5_1 4200) <|
          lt (sI σ_11 43 x5_1.toNatClampNeg (gI σ_11 41 4)) fun σ_13 =>
          gd (ib x5_1 4200) <|
          some (gI σ_13 42 x5_1.toNatClampNeg, σ_13))
      else
        some ((0 : Int32), σ)
def f_X5_bestFrom (p1 : Int32) (p2 : Int32) (p3 : Int32) (p4 : Int32) (σ : Mem) : Option (Int32 × Mem) := fx5 f_X5_bestFrom_F 16 p1 p2 p3 p4 σ
set_option maxHeartbeats 4000000 in
set_option maxRecDepth 100000 in
theorem m_X5_bestFrom_F (l : Launch) (E : EV) (rc : Int32 → Int32 → Int32 → Int32 → Mem → Option (Int32 × Mem)) {fr lo : Nat} (hF : 40 ≤ fr) (hL : 1200 ≤ lo) (hrc : ∀ (p1 : Int32) (p2 : Int32) (p3 : Int32) (p4 : Int32) (σ : Mem) (rr : Int32) (τ : Mem), rc p1 p2 p3 p4 σ = some (rr, τ) → MI TC l E yX5_bestFrom cX5_bestFrom 6 (some .int) fr lo [.ref (E.2.1 (41)), .int p1, .int p2, .int p3, .int p4] σ rr τ) (p1 : Int32) (p2 : Int32) (p3 : Int32) (p4 : Int32) (σ : Mem) (rr : Int32) (τ : Mem) (h : f_X5_bestFrom_F rc p1 p2 p3 p4 σ = some (rr, τ)) : MI TC l E yX5_bestFrom cX5_bestFrom 6 (some .int) (fr + 3) (lo + 85) [.ref (E.2.1 (41)), .int p1, .int p2, .int p3, .int p4] σ rr τ := by
  refine mt_start RX5 (by decide +kernel) rfl (Nat.le_of_ble_eq_true rfl) (fun p e s m args below meth c ls C hw hl => ?_)
  replace hl : lv_has ls 6 [(0, .ref (E.2.1 (41))), (1, .int p1), (2, .int p2), (3, .int p3), (4, .int p4)] := hl
  obtain ⟨hx, hb, hml, hown, hts, hK, hSt, hlk, hr⟩ := id C
  unfold f_X5_bestFrom_F at h
  refine lv_iload_n hx hb dX5_bestFrom_0 rfl (lv_at hl 1 rfl) ?_
  refine lv_bipush (v := 6) hx hb dX5_bestFrom_1 (by decide) ?_
  refine lv_imul hx hb dX5_bestFrom_3 ?_
  refine lv_iload_n hx hb dX5_bestFrom_4 rfl (lv_at hl 2 rfl) ?_
  refine lv_iadd hx hb dX5_bestFrom_5 ?_
  refine lv_bipush (v := 100) hx hb dX5_bestFrom_6 (by decide) ?_
  refine lv_imul hx hb dX5_bestFrom_8 ?_
  refine lv_iload_n hx hb dX5_bestFrom_9 rfl (lv_at hl 3 rfl) ?_
  refine lv_bipush (v := 10) hx hb dX5_bestFrom_10 (by decide) ?_
  refine lv_imul hx hb dX5_bestFrom_12 ?_
  refine lv_iadd hx hb dX5_bestFrom_13 ?_
  refine lv_iload hx hb dX5_bestFrom_14 (lv_at hl 4 rfl) ?_
  refine lv_iadd hx hb dX5_bestFrom_16 ?_
  obtain ⟨x5_1, ex5_1, h⟩ := lt_at h
  refine q_top ex5_1 ?_
  refine lv_istore (lv' := [(5, .int x5_1), (0, .ref (E.2.1 (41))), (1, .int p1), (2, .int p2), (3, .int p3), (4, .int p4)]) hx hb dX5_bestFrom_17 hl (by decide) rfl (fun ls hl => ?_)
  refine lv_iload_n hx hb dX5_bestFrom_19 rfl (lv_at hl 2 rfl) ?_
  refine lv_iconst (v := 1) hx hb dX5_bestFrom_20 (by decide) ?_
  refine lv_icmp_lt (tgt := 39) hx hb dX5_bestFrom_21 (by decide) (fun c_2 => ?_) (fun c_2 => ?_)
  · replace h := it_at h c_2
    refine lv_iconst (v := 0) hx hb dX5_bestFrom_39 (by decide) ?_
    obtain ⟨rfl, rfl⟩ := ret_at h
    exact q_iret C hw dX5_bestFrom_40
  · replace h := ie_at h c_2
    refine lv_iload hx hb dX5_bestFrom_24 (lv_at hl 0 rfl) ?_
    refine lv_if_lt (tgt := 39) hx hb dX5_bestFrom_26 (by decide) (fun c_3 => ?_) (fun c_3 => ?_)
    · replace h := it_at h c_3
      refine lv_iconst (v := 0) hx hb dX5_bestFrom_39 (by decide) ?_
      obtain ⟨rfl, rfl⟩ := ret_at h
      exact q_iret C hw dX5_bestFrom_40
    · replace h := ie_at h c_3
      refine lv_iload hx hb dX5_bestFrom_29 (lv_at hl 0 rfl) ?_
      refine lv_aload_n hx hb dX5_bestFrom_31 rfl (lv_at hl 1 rfl) ?_
      refine gf_5_0 C hw tC_41 kw_292 (c1 := 42) rfl dX5_bestFrom_32 ?_
      refine q_alen C hw tC_42 (v := 4200) rfl dX5_bestFrom_35 ?_
      refine lv_icmp_lt (tgt := 41) hx hb dX5_bestFrom_36 (by decide) (fun c_4 => ?_) (fun c_4 => ?_)
      · replace h := it_at h c_4
        refine lv_aload_n hx hb dX5_bestFrom_41 rfl (lv_at hl 1 rfl) ?_
        refine gf_5_1 C hw tC_41 kw_293 (c1 := 43) rfl dX5_bestFrom_42 ?_
        refine lv_iload hx hb dX5_bestFrom_45 (lv_at hl 0 rfl) ?_
        obtain ⟨g_5, h⟩ := gd_at h
        refine q_iald C hw tC_43 g_5 dX5_bestFrom_47 ?_
        refine lv_aload_n hx hb dX5_bestFrom_48 rfl (lv_at hl 1 rfl) ?_
        refine gf_5_4 C hw tC_41 kw_296 dX5_bestFrom_49 ?_
        refine lv_icmp_eq (tgt := 85) hx hb dX5_bestFrom_52 (by decide) (fun c_6 => ?_) (fun c_6 => ?_)
        · replace h := it_at h c_6
          refine lv_aload_n hx hb dX5_bestFrom_85 rfl (lv_at hl 1 rfl) ?_
          refine gf_5_0 C hw tC_41 kw_292 (c1 := 42) rfl dX5_bestFrom_86 ?_
          refine lv_iload hx hb dX5_bestFrom_89 (lv_at hl 0 rfl) ?_
          obtain ⟨g_7, h⟩ := gd_at h
          refine q_iald C hw tC_42 g_7 dX5_bestFrom_91 ?_
          obtain ⟨rfl, rfl⟩ := ret_at h
          exact q_iret C hw dX5_bestFrom_92
        · replace h := ie_at h c_6
          refine lv_aload_n hx hb dX5_bestFrom_55 rfl (lv_at hl 1 rfl) ?_
          refine gf_5_0 C hw tC_41 kw_292 (c1 := 42) rfl dX5_bestFrom_56 ?_
          refine lv_iload hx hb dX5_bestFrom_59 (lv_at hl 0 rfl) ?_
          refine lv_aload_n hx hb dX5_bestFrom_61 rfl (lv_at hl 1 rfl) ?_
          refine lv_iload_n hx hb dX5_bestFrom_62 rfl (lv_at hl 2 rfl) ?_
          refine lv_iload_n hx hb dX5_bestFrom_63 rfl (lv_at hl 3 rfl) ?_
          refine lv_iload_n hx hb dX5_bestFrom_64 rfl (lv_at hl 4 rfl) ?_
          refine lv_iload hx hb dX5_bestFrom_65 (lv_at hl 5 rfl) ?_
          refine lv_sipush (v := 255) hx hb dX5_bestFrom_67 (by decide) ?_
          obtain ⟨r_8, σ_9, h_10, h⟩ := bd_at h
          refine q_afterI hw (q_runV C hw hl.1 (As := [.int p1, .int p2, .int p3, .int p4, .int (255 : Int32)]) (rest := [.int x5_1, .ref (E.2.1 (42))]) (m_X5_greatest l E rc hF hL hrc p1 p2 p3 p4 (255 : Int32) σ r_8 σ_9 h_10) yq_X5_greatest tC_41 rfl rfl kw_766 ⟨by dsimp only; omega, by dsimp only; omega⟩ rfl (Nat.le_of_ble_eq_true rfl) ⟨Nat.zero_le _, Nat.zero_le _⟩ dX5_bestFrom_70) (fun H locs hw => ?_)
          obtain ⟨g_12, h⟩ := gd_at h
          obtain ⟨σ_11, eσ_11, h⟩ := lt_at h
          refine q_iast C hw tC_42 g_12 eσ_11 dX5_bestFrom_73 (fun H locs hw => ?_)
          refine lv_aload_n hx hb dX5_bestFrom_74 rfl (lv_at hl 1 rfl) ?_
          refine gf_5_1 C hw tC_41 kw_293 (c1 := 43) rfl dX5_bestFrom_75 ?_
          refine lv_iload hx hb dX5_bestFrom_78 (lv_at hl 0 rfl) ?_
          refine lv_aload_n hx hb dX5_bestFrom_80 rfl (lv_at hl 1 rfl) ?_
          refine gf_5_4 C hw tC_41 kw_296 dX5_bestFrom_81 ?_
          obtain ⟨g_14, h⟩ := gd_at h
          obtain ⟨σ_13, eσ_13, h⟩ := lt_at h
          refine q_iast C hw tC_43 g_14 eσ_13 dX5_bestFrom_84 (fun H locs hw => ?_)
          refine lv_aload_n hx hb dX5_bestFrom_85 rfl (lv_at hl 1 rfl) ?_
          refine gf_5_0 C hw tC_41 kw_292 (c1 := 42) rfl dX5_bestFrom_86 ?_
          refine lv_iload hx hb dX5_bestFrom_89 (lv_at hl 0 rfl) ?_
          obtain ⟨g_15, h⟩ := gd_at h
          refine q_iald C hw tC_42 g_15 dX5_bestFrom_91 ?_
          obtain ⟨rfl, rfl⟩ := ret_at h
          exact q_iret C hw dX5_bestFrom_92
      · replace h := ie_at h c_4
        refine lv_iconst (v := 0) hx hb dX5_bestFrom_39 (by decide) ?_
        obtain ⟨rfl, rfl⟩ := ret_at h
        exact q_iret C hw dX5_bestFrom_40
theorem md_X5_bestFrom (l : Launch) (E : EV) : ∀ (d : Nat) (p1 : Int32) (p2 : Int32) (p3 : Int32) (p4 : Int32) (σ : Mem) (rr : Int32) (τ : Mem), fx5 f_X5_bestFrom_F d p1 p2 p3 p4 σ = some (rr, τ) → MI TC l E yX5_bestFrom cX5_bestFrom 6 (some .int) (40 + 3 * d) (1200 + 85 * d) [.ref (E.2.1 (41)), .int p1, .int p2, .int p3, .int p4] σ rr τ := by
  intro d
  induction d with
  | zero =>
    intro p1 p2 p3 p4 σ rr τ h
    have h : none = some (rr, τ) := h
    cases h
  | succ n ih =>
    intro p1 p2 p3 p4 σ rr τ h
    have e1 : 40 + 3 * (n + 1) = (40 + 3 * n) + 3 := by omega
    have e2 : 1200 + 85 * (n + 1) = (1200 + 85 * n) + 85 := by omega
    rw [e1, e2]
    exact m_X5_bestFrom_F l E (rc := fx5 f_X5_bestFrom_F n) (fr := 40 + 3 * n) (lo := 1200 + 85 * n) (by omega) (by omega) ih p1 p2 p3 p4 σ rr τ h
theorem m_X5_bestFrom (l : Launch) (E : EV) (p1 : Int32) (p2 : Int32) (p3 : Int32) (p4 : Int32) (σ : Mem) (rr : Int32) (τ : Mem) (h : f_X5_bestFrom p1 p2 p3 p4 σ = some (rr, τ)) : MI TC l E yX5_bestFrom cX5_bestFrom 6 (some .int) 88 2560 [.ref (E.2.1 (41)), .int p1, .int p2, .int p3, .int p4] σ rr τ := md_X5_bestFrom l E 16 p1 p2 p3 p4 σ rr τ h
def f_X5_worthOfx (p1 : Int32) (p2 : Int32) (p3 : Int32) (p4 : Int32) (p5 : Int32) (σ : Mem) : Option (Int32 × Mem) := f_X5_worthOf f_X5_bestFrom p1 p2 p3 p4 p5 σ
theorem m_X5_worthOfx (l : Launch) (E : EV) (p1 : Int32) (p2 : Int32) (p3 : Int32) (p4 : Int32) (p5 : Int32) (σ : Mem) (rr : Int32) (τ : Mem) (h : f_X5_worthOfx p1 p2 p3 p4 p5 σ = some (rr, τ)) : MI TC l E yX5_worthOf cX5_worthOf 12 (some .int) 89 2585 [.ref (E.2.1 (41)), .int p1, .int p2, .int p3, .int p4, .int p5] σ rr τ := m_X5_worthOf l E (rc := f_X5_bestFrom) (fr := 88) (lo := 2560) (by decide) (by decide) (m_X5_bestFrom l E) p1 p2 p3 p4 p5 σ rr τ h
def f_X5_greatestx (p1 : Int32) (p2 : Int32) (p3 : Int32) (p4 : Int32) (p5 : Int32) (σ : Mem) : Option (Int32 × Mem) := f_X5_greatest f_X5_bestFrom p1 p2 p3 p4 p5 σ
theorem m_X5_greatestx (l : Launch) (E : EV) (p1 : Int32) (p2 : Int32) (p3 : Int32) (p4 : Int32) (p5 : Int32) (σ : Mem) (rr : Int32) (τ : Mem) (h : f_X5_greatestx p1 p2 p3 p4 p5 σ = some (rr, τ)) : MI TC l E yX5_greatest cX5_greatest 10 (some .int) 90 2616 [.ref (E.2.1 (41)), .int p1, .int p2, .int p3, .int p4, .int p5] σ rr τ := m_X5_greatest l E (rc := f_X5_bestFrom) (fr := 88) (lo := 2560) (by decide) (by decide) (m_X5_bestFrom l E) p1 p2 p3 p4 p5 σ rr τ h
def f_X5_safeOnes_61 (k7 : Int32 → Int32 → Int32 → Int32 → Mem → Option (Int32 × Mem)) (k26 : Int32 → Int32 → Int32 → Int32 → Int32 → Mem → Option (Int32 × Mem)) (x1 : Int32) (x2 : Int32) (x3 : Int32) (x4 : Int32) (x5 : Int32) (σ : Mem) : Option (Int32 × Mem) :=
  lt (x5 + (1 : Int32)) fun x5_14 =>
  k26 x1 x2 x3 x4 x5_14 σ
def f_X5_safeOnes_26 (k7 : Int32 → Int32 → Int32 → Int32 → Mem → Option (Int32 × Mem)) (k26 : Int32 → Int32 → Int32 → Int32 → Int32 → Mem → Option (Int32 × Mem)) (x1 : Int32) (x2 : Int32) (x3 : Int32) (x4 : Int32) (x5 : Int32) (σ : Mem) : Option (Int32 × Mem) :=
  if (8 : Int32) ≤ x5 then
    (lt (x4 + (1 : Int32)) fun x4_4 =>
    k7 x1 x2 x3 x4_4 σ)
  else
    gd (im (gI σ 41 6)) <|
    bd (f_X3_hourBy ((gI σ 41 6).toNatClampNeg) x4 x5 x1 x2 σ) fun r_6 σ_7 =>
    bd (f_X3_isAway r_6 σ_7) fun r_9 σ_10 =>
    if r_9 = 0 then
      (f_X5_safeOnes_61 k7 k26 x1 x2 x3 x4 x5 σ_10)
    else
      lt (x3 &&& (((1 : Int32) <<< (x5 &&& 31)) ^^^ (-1 : Int32))) fun x3_13 =>
      f_X5_safeOnes_61 k7 k26 x1 x2 x3_13 x4 x5 σ_10
def f_X5_safeOnes_7 (k7 : Int32 → Int32 → Int32 → Int32 → Mem → Option (Int32 × Mem)) (x1 : Int32) (x2 : Int32) (x3 : Int32) (x4 : Int32) (σ : Mem) : Option (Int32 × Mem) :=
  if (6 : Int32) ≤ x4 then
    (some (x3, σ))
  else
    if (gI σ 41 11) < x4 then
      (some (x3, σ))
    else
      fx6 (f_X5_safeOnes_26 k7) FU x1 x2 x3 x4 (0 : Int32) σ
def f_X5_safeOnes (p1 : Int32) (p2 : Int32) (σ : Mem) : Option (Int32 × Mem) :=
  fx5 (f_X5_safeOnes_7) FU p1 p2 (255 : Int32) (0 : Int32) σ
set_option maxHeartbeats 4000000 in
set_option maxRecDepth 100000 in
theorem w_X5_safeOnes_61 {p : Program} {l : Launch} {e : Env} {s : State} {m : MethodId} {args : Array Value} {below : List Frame} {meth : Method} {c : Code} {E : EV} {rr : Int32} {τ : Mem} (C : Cx E p s m args meth c cX5_safeOnes 6 (some .int) RX5) (k7 : Int32 → Int32 → Int32 → Int32 → Mem → Option (Int32 × Mem)) (hk7 : ∀ (x1 : Int32) (x2 : Int32) (x3 : Int32) (x4 : Int32) (σ : Mem) (H : Heap) (locs : List Loc) (ls : Array Slot) (hw : Wd TC E σ s H locs) (hl : lv_has ls 6 [(0, .ref (E.2.1 (41))), (1, .int x1), (2, .int x2), (3, .int x3), (4, .int x4)]) (h : k7 x1 x2 x3 x4 σ = some (rr, τ)), W p l e { frames := 3, cells := 0, slots := 0, locals := 79 } s m args below meth c H locs 0 0 (MQ below (QI TC E rr τ) args s 0 0 E.2.2.1) (F0 m 7 ls [])) (k26 : Int32 → Int32 → Int32 → Int32 → Int32 → Mem → Option (Int32 × Mem)) (hk26 : ∀ (x1 : Int32) (x2 : Int32) (x3 : Int32) (x4 : Int32) (x5 : Int32) (σ : Mem) (H : Heap) (locs : List Loc) (ls : Array Slot) (hw : Wd TC E σ s H locs) (hl : lv_has ls 6 [(0, .ref (E.2.1 (41))), (1, .int x1), (2, .int x2), (3, .int x3), (4, .int x4), (5, .int x5)]) (h : k26 x1 x2 x3 x4 x5 σ = some (rr, τ)), W p l e { frames := 3, cells := 0, slots := 0, locals := 79 } s m args below meth c H locs 0 0 (MQ below (QI TC E rr τ) args s 0 0 E.2.2.1) (F0 m 26 ls [])) : ∀ (x1 : Int32) (x2 : Int32) (x3 : Int32) (x4 : Int32) (x5 : Int32) (σ : Mem) (H : Heap) (locs : List Loc) (ls : Array Slot) (hw : Wd TC E σ s H locs) (hl : lv_has ls 6 [(0, .ref (E.2.1 (41))), (1, .int x1), (2, .int x2), (3, .int x3), (4, .int x4), (5, .int x5)]) (h : f_X5_safeOnes_61 k7 k26 x1 x2 x3 x4 x5 σ = some (rr, τ)), W p l e { frames := 3, cells := 0, slots := 0, locals := 79 } s m args below meth c H locs 0 0 (MQ below (QI TC E rr τ) args s 0 0 E.2.2.1) (F0 m 61 ls []) := by
  obtain ⟨hx, hb, hml, hown, hts, hK, hSt, hlk, hr⟩ := id C
  intro x1 x2 x3 x4 x5 σ H locs ls hw hl h
  unfold f_X5_safeOnes_61 at h
  obtain ⟨x5_14, ex5_14, h⟩ := lt_at h
  refine lv_iinc (v := x5_14) (lv' := [(5, .int x5_14), (0, .ref (E.2.1 (41))), (1, .int x1), (2, .int x2), (3, .int x3), (4, .int x4)]) hx hb dX5_safeOnes_61 hl (k := 5) rfl (by rw [ex5_14]; rfl) (by decide) rfl (fun ls hl => ?_)
  refine lv_goto (tgt := 26) hx hb dX5_safeOnes_64 (by decide) ?_
  exact hk26 _ _ _ _ _ _ _ _ _ hw (lv_sub hl [1, 2, 3, 4, 5, 0] rfl) h
set_option maxHeartbeats 4000000 in
set_option maxRecDepth 100000 in
theorem w_X5_safeOnes_26 {p : Program} {l : Launch} {e : Env} {s : State} {m : MethodId} {args : Array Value} {below : List Frame} {meth : Method} {c : Code} {E : EV} {rr : Int32} {τ : Mem} (C : Cx E p s m args meth c cX5_safeOnes 6 (some .int) RX5) (k7 : Int32 → Int32 → Int32 → Int32 → Mem → Option (Int32 × Mem)) (hk7 : ∀ (x1 : Int32) (x2 : Int32) (x3 : Int32) (x4 : Int32) (σ : Mem) (H : Heap) (locs : List Loc) (ls : Array Slot) (hw : Wd TC E σ s H locs) (hl : lv_has ls 6 [(0, .ref (E.2.1 (41))), (1, .int x1), (2, .int x2), (3, .int x3), (4, .int x4)]) (h : k7 x1 x2 x3 x4 σ = some (rr, τ)), W p l e { frames := 3, cells := 0, slots := 0, locals := 79 } s m args below meth c H locs 0 0 (MQ below (QI TC E rr τ) args s 0 0 E.2.2.1) (F0 m 7 ls [])) : ∀ (n : Nat) (x1 : Int32) (x2 : Int32) (x3 : Int32) (x4 : Int32) (x5 : Int32) (σ : Mem) (H : Heap) (locs : List Loc) (ls : Array Slot) (hw : Wd TC E σ s H locs) (hl : lv_has ls 6 [(0, .ref (E.2.1 (41))), (1, .int x1), (2, .int x2), (3, .int x3), (4, .int x4), (5, .int x5)]) (h : fx6 (f_X5_safeOnes_26 k7) n x1 x2 x3 x4 x5 σ = some (rr, τ)), W p l e { frames := 3, cells := 0, slots := 0, locals := 79 } s m args below meth c H locs 0 0 (MQ below (QI TC E rr τ) args s 0 0 E.2.2.1) (F0 m 26 ls []) := by
  obtain ⟨hx, hb, hml, hown, hts, hK, hSt, hlk, hr⟩ := id C
  intro n
  induction n with
  | zero =>
    intro x1 x2 x3 x4 x5 σ H locs ls hw hl h
    have h : none = some (rr, τ) := h
    cases h
  | succ n hk26 =>
    intro x1 x2 x3 x4 x5 σ H locs ls hw hl h
    replace h : f_X5_safeOnes_26 k7 (fx6 (f_X5_safeOnes_26 k7) n) x1 x2 x3 x4 x5 σ = some (rr, τ) := h
    unfold f_X5_safeOnes_26 at h
    refine lv_iload hx hb dX5_safeOnes_26 (lv_at hl 5 rfl) ?_
    refine lv_bipush (v := 8) hx hb dX5_safeOnes_28 (by decide) ?_
    refine lv_icmp_ge (tgt := 67) hx hb dX5_safeOnes_30 (by decide) (fun c_3 => ?_) (fun c_3 => ?_)
    · replace h := it_at h c_3
      obtain ⟨x4_4, ex4_4, h⟩ := lt_at h
      refine lv_iinc (v := x4_4) (lv' := [(4, .int x4_4), (0, .ref (E.2.1 (41))), (1, .int x1), (2, .int x2), (3, .int x3), (5, .int x5)]) hx hb dX5_safeOnes_67 hl (k := 4) rfl (by rw [ex4_4]; rfl) (by decide) rfl (fun ls hl => ?_)
      refine lv_goto (tgt := 7) hx hb dX5_safeOnes_70 (by decide) ?_
      exact hk7 _ _ _ _ _ _ _ _ hw (lv_sub hl [1, 2, 3, 4, 0] rfl) h
    · replace h := ie_at h c_3
      refine lv_aload_n hx hb dX5_safeOnes_33 rfl (lv_at hl 0 rfl) ?_
      obtain ⟨g_5, h⟩ := gd_at h
      refine gm_5_6 C hw tC_41 kw_298 g_5 dX5_safeOnes_34 ?_
      refine lv_iload hx hb dX5_safeOnes_37 (lv_at hl 4 rfl) ?_
      refine lv_iload hx hb dX5_safeOnes_39 (lv_at hl 5 rfl) ?_
      refine lv_iload_n hx hb dX5_safeOnes_41 rfl (lv_at hl 1 rfl) ?_
      refine lv_iload_n hx hb dX5_safeOnes_42 rfl (lv_at hl 2 rfl) ?_
      obtain ⟨r_6, σ_7, h_8, h⟩ := bd_at h
      refine q_afterI hw (q_runV C hw hl.1 (As := [.int x4, .int x5, .int x1, .int x2]) (rest := []) (m_X3_hourBy l E ((gI σ 41 6).toNatClampNeg) ((im_at g_5).1) x4 x5 x1 x2 σ r_6 σ_7 h_8) yq_X3_hourBy (mo_T (im_at g_5).1).1 rfl rfl kw_758 ⟨Nat.le_of_ble_eq_true rfl, Nat.le_of_ble_eq_true rfl⟩ rfl (Nat.le_of_ble_eq_true rfl) ⟨Nat.zero_le _, Nat.zero_le _⟩ dX5_safeOnes_43) (fun H locs hw => ?_)
      obtain ⟨r_9, σ_10, h_11, h⟩ := bd_at h
      refine q_afterI hw (q_runS C hw hl.1 (As := [.int r_6]) (rest := []) (m_X3_isAway l E r_6 σ_7 r_9 σ_10 h_11) yq_X3_isAway kw_760 ⟨Nat.le_of_ble_eq_true rfl, Nat.le_of_ble_eq_true rfl⟩ rfl (Nat.le_of_ble_eq_true rfl) ⟨Nat.zero_le _, Nat.zero_le _⟩ dX5_safeOnes_46) (fun H locs hw => ?_)
      refine lv_if_eq (tgt := 61) hx hb dX5_safeOnes_49 (by decide) (fun c_12 => ?_) (fun c_12 => ?_)
      · replace h := it_at h c_12
        exact w_X5_safeOnes_61 C _ hk7 _ hk26 _ _ _ _ _ _ _ _ _ hw (lv_sub hl [0, 1, 2, 3, 4, 5] rfl) h
      · replace h := ie_at h c_12
        refine lv_iload_n hx hb dX5_safeOnes_52 rfl (lv_at hl 3 rfl) ?_
        refine lv_iconst (v := 1) hx hb dX5_safeOnes_53 (by decide) ?_
        refine lv_iload hx hb dX5_safeOnes_54 (lv_at hl 5 rfl) ?_
        refine lv_ishl hx hb dX5_safeOnes_56 ?_
        refine lv_iconst (v := (-1)) hx hb dX5_safeOnes_57 (by decide) ?_
        refine lv_ixor hx hb dX5_safeOnes_58 ?_
        refine lv_iand hx hb dX5_safeOnes_59 ?_
        obtain ⟨x3_13, ex3_13, h⟩ := lt_at h
        refine q_top ex3_13 ?_
        refine lv_istore_n (lv' := [(3, .int x3_13), (0, .ref (E.2.1 (41))), (1, .int x1), (2, .int x2), (4, .int x4), (5, .int x5)]) hx hb dX5_safeOnes_60 rfl hl (by decide) rfl (fun ls hl => ?_)
        exact w_X5_safeOnes_61 C _ hk7 _ hk26 _ _ _ _ _ _ _ _ _ hw (lv_sub hl [1, 2, 3, 0, 4, 5] rfl) h
set_option maxHeartbeats 4000000 in
set_option maxRecDepth 100000 in
theorem w_X5_safeOnes_7 {p : Program} {l : Launch} {e : Env} {s : State} {m : MethodId} {args : Array Value} {below : List Frame} {meth : Method} {c : Code} {E : EV} {rr : Int32} {τ : Mem} (C : Cx E p s m args meth c cX5_safeOnes 6 (some .int) RX5) : ∀ (n : Nat) (x1 : Int32) (x2 : Int32) (x3 : Int32) (x4 : Int32) (σ : Mem) (H : Heap) (locs : List Loc) (ls : Array Slot) (hw : Wd TC E σ s H locs) (hl : lv_has ls 6 [(0, .ref (E.2.1 (41))), (1, .int x1), (2, .int x2), (3, .int x3), (4, .int x4)]) (h : fx5 (f_X5_safeOnes_7) n x1 x2 x3 x4 σ = some (rr, τ)), W p l e { frames := 3, cells := 0, slots := 0, locals := 79 } s m args below meth c H locs 0 0 (MQ below (QI TC E rr τ) args s 0 0 E.2.2.1) (F0 m 7 ls []) := by
  obtain ⟨hx, hb, hml, hown, hts, hK, hSt, hlk, hr⟩ := id C
  intro n
  induction n with
  | zero =>
    intro x1 x2 x3 x4 σ H locs ls hw hl h
    have h : none = some (rr, τ) := h
    cases h
  | succ n hk7 =>
    intro x1 x2 x3 x4 σ H locs ls hw hl h
    replace h : f_X5_safeOnes_7 (fx5 (f_X5_safeOnes_7) n) x1 x2 x3 x4 σ = some (rr, τ) := h
    unfold f_X5_safeOnes_7 at h
    refine lv_iload hx hb dX5_safeOnes_7 (lv_at hl 4 rfl) ?_
    refine lv_bipush (v := 6) hx hb dX5_safeOnes_9 (by decide) ?_
    refine lv_icmp_ge (tgt := 73) hx hb dX5_safeOnes_11 (by decide) (fun c_1 => ?_) (fun c_1 => ?_)
    · replace h := it_at h c_1
      refine lv_iload_n hx hb dX5_safeOnes_73 rfl (lv_at hl 3 rfl) ?_
      obtain ⟨rfl, rfl⟩ := ret_at h
      exact q_iret C hw dX5_safeOnes_74
    · replace h := ie_at h c_1
      refine lv_iload hx hb dX5_safeOnes_14 (lv_at hl 4 rfl) ?_
      refine lv_aload_n hx hb dX5_safeOnes_16 rfl (lv_at hl 0 rfl) ?_
      refine gf_5_11 C hw tC_41 kw_303 dX5_safeOnes_17 ?_
      refine lv_icmp_gt (tgt := 73) hx hb dX5_safeOnes_20 (by decide) (fun c_2 => ?_) (fun c_2 => ?_)
      · replace h := it_at h c_2
        refine lv_iload_n hx hb dX5_safeOnes_73 rfl (lv_at hl 3 rfl) ?_
        obtain ⟨rfl, rfl⟩ := ret_at h
        exact q_iret C hw dX5_safeOnes_74
      · replace h := ie_at h c_2
        refine lv_iconst (v := 0) hx hb dX5_safeOnes_23 (by decide) ?_
        refine lv_istore (lv' := [(5, .int (0 : Int32)), (0, .ref (E.2.1 (41))), (1, .int x1), (2, .int x2), (3, .int x3), (4, .int x4)]) hx hb dX5_safeOnes_24 hl (by decide) rfl (fun ls hl => ?_)
        exact w_X5_safeOnes_26 C _ hk7 _ _ _ _ _ _ _ _ _ _ hw (lv_sub hl [1, 2, 3, 4, 5, 0] rfl) h
set_option maxHeartbeats 4000000 in
set_option maxRecDepth 100000 in
theorem m_X5_safeOnes (l : Launch) (E : EV) (p1 : Int32) (p2 : Int32) (σ : Mem) (rr : Int32) (τ : Mem) (h : f_X5_safeOnes p1 p2 σ = some (rr, τ)) : MI TC l E yX5_safeOnes cX5_safeOnes 6 (some .int) 3 79 [.ref (E.2.1 (41)), .int p1, .int p2] σ rr τ := by
  refine mt_start RX5 (by decide +kernel) rfl (Nat.le_of_ble_eq_true rfl) (fun p e s m args below meth c ls C hw hl => ?_)
  replace hl : lv_has ls 6 [(0, .ref (E.2.1 (41))), (1, .int p1), (2, .int p2)] := hl
  obtain ⟨hx, hb, hml, hown, hts, hK, hSt, hlk, hr⟩ := id C
  unfold f_X5_safeOnes at h
  refine lv_sipush (v := 255) hx hb dX5_safeOnes_0 (by decide) ?_
  refine lv_istore_n (lv' := [(3, .int (255 : Int32)), (0, .ref (E.2.1 (41))), (1, .int p1), (2, .int p2)]) hx hb dX5_safeOnes_3 rfl hl (by decide) rfl (fun ls hl => ?_)
  refine lv_iconst (v := 0) hx hb dX5_safeOnes_4 (by decide) ?_
  refine lv_istore (lv' := [(4, .int (0 : Int32)), (3, .int (255 : Int32)), (0, .ref (E.2.1 (41))), (1, .int p1), (2, .int p2)]) hx hb dX5_safeOnes_5 hl (by decide) rfl (fun ls hl => ?_)
  exact w_X5_safeOnes_7 C _ _ _ _ _ _ _ _ _ hw (lv_sub hl [2, 3, 4, 1, 0] rfl) h
def f_X7_told (p1 : Int32) (p2 : Int32) (σ : Mem) : Option (Int32 × Mem) :=
  gd (ib p1 10) <|
  lt (gI σ 11 p1.toNatClampNeg) fun x3_2 =>
  if x3_2 ≤ 0 then
    (gd (ib p1 10) <|
    some (gI σ 10 p1.toNatClampNeg, σ))
  else
    if 0 ≤ p2 then
      (gd (decide (¬ x3_2 = 0)) <|
      gd (ib ((p1 * (10 : Int32)) + (irm p2 x3_2)) 100) <|
      some (gI σ 12 ((p1 * (10 : Int32)) + (irm p2 x3_2)).toNatClampNeg, σ))
    else
      gd (ib p1 10) <|
      some (gI σ 10 p1.toNatClampNeg, σ)
set_option maxHeartbeats 4000000 in
set_option maxRecDepth 100000 in
theorem m_X7_told (l : Launch) (E : EV) (p1 : Int32) (p2 : Int32) (σ : Mem) (rr : Int32) (τ : Mem) (h : f_X7_told p1 p2 σ = some (rr, τ)) : MI TC l E yX7_told cX7_told 4 (some .int) 0 0 [.ref (E.2.1 (8)), .int p1, .int p2] σ rr τ := by
  refine mt_start RX7 (by decide +kernel) rfl (Nat.le_of_ble_eq_true rfl) (fun p e s m args below meth c ls C hw hl => ?_)
  replace hl : lv_has ls 4 [(0, .ref (E.2.1 (8))), (1, .int p1), (2, .int p2)] := hl
  obtain ⟨hx, hb, hml, hown, hts, hK, hSt, hlk, hr⟩ := id C
  unfold f_X7_told at h
  refine lv_aload_n hx hb dX7_told_0 rfl (lv_at hl 0 rfl) ?_
  refine gf_7_2 C hw tC_8 kw_185 (c1 := 11) rfl dX7_told_1 ?_
  refine lv_iload_n hx hb dX7_told_4 rfl (lv_at hl 1 rfl) ?_
  obtain ⟨g_1, h⟩ := gd_at h
  refine q_iald C hw tC_11 g_1 dX7_told_5 ?_
  obtain ⟨x3_2, ex3_2, h⟩ := lt_at h
  refine q_top ex3_2 ?_
  refine lv_istore_n (lv' := [(3, .int x3_2), (0, .ref (E.2.1 (8))), (1, .int p1), (2, .int p2)]) hx hb dX7_told_6 rfl hl (by decide) rfl (fun ls hl => ?_)
  refine lv_iload_n hx hb dX7_told_7 rfl (lv_at hl 0 rfl) ?_
  refine lv_if_le (tgt := 15) hx hb dX7_told_8 (by decide) (fun c_3 => ?_) (fun c_3 => ?_)
  · replace h := it_at h c_3
    refine lv_aload_n hx hb dX7_told_15 rfl (lv_at hl 1 rfl) ?_
    refine gf_7_1 C hw tC_8 kw_181 (c1 := 10) rfl dX7_told_16 ?_
    refine lv_iload_n hx hb dX7_told_19 rfl (lv_at hl 2 rfl) ?_
    obtain ⟨g_4, h⟩ := gd_at h
    refine q_iald C hw tC_10 g_4 dX7_told_20 ?_
    refine lv_goto (tgt := 37) hx hb dX7_told_21 (by decide) ?_
    obtain ⟨rfl, rfl⟩ := ret_at h
    exact q_iret C hw dX7_told_37
  · replace h := ie_at h c_3
    refine lv_iload_n hx hb dX7_told_11 rfl (lv_at hl 3 rfl) ?_
    refine lv_if_ge (tgt := 24) hx hb dX7_told_12 (by decide) (fun c_5 => ?_) (fun c_5 => ?_)
    · replace h := it_at h c_5
      refine lv_aload_n hx hb dX7_told_24 rfl (lv_at hl 1 rfl) ?_
      refine gf_7_3 C hw tC_8 kw_187 (c1 := 12) rfl dX7_told_25 ?_
      refine lv_iload_n hx hb dX7_told_28 rfl (lv_at hl 2 rfl) ?_
      refine lv_bipush (v := 10) hx hb dX7_told_29 (by decide) ?_
      refine lv_imul hx hb dX7_told_31 ?_
      refine lv_iload_n hx hb dX7_told_32 rfl (lv_at hl 3 rfl) ?_
      refine lv_iload_n hx hb dX7_told_33 rfl (lv_at hl 0 rfl) ?_
      obtain ⟨g_6, h⟩ := gd_at h
      refine q_irem hx hb dX7_told_34 (of_decide_eq_true g_6) ?_
      refine lv_iadd hx hb dX7_told_35 ?_
      obtain ⟨g_7, h⟩ := gd_at h
      refine q_iald C hw tC_12 g_7 dX7_told_36 ?_
      obtain ⟨rfl, rfl⟩ := ret_at h
      exact q_iret C hw dX7_told_37
    · replace h := ie_at h c_5
      refine lv_aload_n hx hb dX7_told_15 rfl (lv_at hl 1 rfl) ?_
      refine gf_7_1 C hw tC_8 kw_181 (c1 := 10) rfl dX7_told_16 ?_
      refine lv_iload_n hx hb dX7_told_19 rfl (lv_at hl 2 rfl) ?_
      obtain ⟨g_8, h⟩ := gd_at h
      refine q_iald C hw tC_10 g_8 dX7_told_20 ?_
      refine lv_goto (tgt := 37) hx hb dX7_told_21 (by decide) ?_
      obtain ⟨rfl, rfl⟩ := ret_at h
      exact q_iret C hw dX7_told_37
def f_X5_settingAt_77 (s1 : Int32) (s2 : Int32) (s3 : Int32) (s4 : Int32) (σ : Mem) : Option (Int32 × Mem) :=
  bd (f_X5_mostMeal s1 s2 s3 s4 σ) fun r_25 σ_26 =>
  some (r_25, σ_26)
def f_X5_settingAt (p1 : Int32) (p2 : Int32) (p3 : Int32) (p4 : Int32) (p5 : Int32) (p6 : Int32) (σ : Mem) : Option (Int32 × Mem) :=
  lt (imn p2 (3 : Int32)) fun x7_1 =>
  if (gI σ 41 10) = (1 : Int32) then
    (some (gI σ 41 11, σ))
  else
  if (gI σ 41 10) = (2 : Int32) then
    (if (irm (gI σ 41 11) (2 : Int32)) = 0 then
      (f_X5_settingAt_77 p4 p5 p6 (85 : Int32) σ)
    else
      f_X5_settingAt_77 p4 p5 p6 (170 : Int32) σ)
  else
  if (gI σ 41 10) = (3 : Int32) then
    (bd (f_X5_mostMeal p3 p5 p6 (255 : Int32) σ) fun r_6 σ_7 =>
    some (r_6, σ_7))
  else
  if (gI σ 41 10) = (4 : Int32) then
    (bd (f_X5_bestFrom x7_1 p3 p5 p6 σ) fun r_10 σ_11 =>
    some (irm r_10 (8 : Int32), σ_11))
  else
  if (gI σ 41 10) = (5 : Int32) then
    (bd (f_X5_safeOnes p5 p6 σ) fun r_14 σ_15 =>
    bd (f_X5_greatestx x7_1 p3 p5 p6 r_14 σ_15) fun r_17 σ_18 =>
    some (irm r_17 (8 : Int32), σ_18))
  else
  if (gI σ 41 10) = (6 : Int32) then
    (gd (decide (gI σ 41 8 = nI 8)) <|
    bd (f_X7_told (gI σ 41 9) p1 σ) fun r_22 σ_23 =>
    some (r_22, σ_23))
  else
  some ((0 : Int32), σ)
set_option maxHeartbeats 4000000 in
set_option maxRecDepth 100000 in
theorem w_X5_settingAt_77 {p : Program} {l : Launch} {e : Env} {s : State} {m : MethodId} {args : Array Value} {below : List Frame} {meth : Method} {c : Code} {E : EV} {rr : Int32} {τ : Mem} (C : Cx E p s m args meth c cX5_settingAt 8 (some .int) RX5) : ∀ (s1 : Int32) (s2 : Int32) (s3 : Int32) (s4 : Int32) (σ : Mem) (H : Heap) (locs : List Loc) (ls : Array Slot) (hw : Wd TC E σ s H locs) (hl : lv_has ls 8 [(0, .ref (E.2.1 (41)))]) (h : f_X5_settingAt_77 s1 s2 s3 s4 σ = some (rr, τ)), W p l e { frames := 91, cells := 0, slots := 0, locals := 2645 } s m args below meth c H locs 0 0 (MQ below (QI TC E rr τ) args s 0 0 E.2.2.1) (F0 m 77 ls [.int s4, .int s3, .int s2, .int s1, .ref (E.2.1 (41))]) := by
  obtain ⟨hx, hb, hml, hown, hts, hK, hSt, hlk, hr⟩ := id C
  intro s1 s2 s3 s4 σ H locs ls hw hl h
  unfold f_X5_settingAt_77 at h
  obtain ⟨r_25, σ_26, h_27, h⟩ := bd_at h
  refine q_afterI hw (q_runV C hw hl.1 (As := [.int s1, .int s2, .int s3, .int s4]) (rest := []) (m_X5_mostMeal l E s1 s2 s3 s4 σ r_25 σ_26 h_27) yq_X5_mostMeal tC_41 rfl rfl kw_754 ⟨Nat.le_of_ble_eq_true rfl, Nat.le_of_ble_eq_true rfl⟩ rfl (Nat.le_of_ble_eq_true rfl) ⟨Nat.zero_le _, Nat.zero_le _⟩ dX5_settingAt_77) (fun H locs hw => ?_)
  obtain ⟨rfl, rfl⟩ := ret_at h
  exact q_iret C hw dX5_settingAt_80
set_option maxHeartbeats 4000000 in
set_option maxRecDepth 100000 in
theorem m_X5_settingAt (l : Launch) (E : EV) (p1 : Int32) (p2 : Int32) (p3 : Int32) (p4 : Int32) (p5 : Int32) (p6 : Int32) (σ : Mem) (rr : Int32) (τ : Mem) (h : f_X5_settingAt p1 p2 p3 p4 p5 p6 σ = some (rr, τ)) : MI TC l E yX5_settingAt cX5_settingAt 8 (some .int) 91 2645 [.ref (E.2.1 (41)), .int p1, .int p2, .int p3, .int p4, .int p5, .int p6] σ rr τ := by
  refine mt_start RX5 (by decide +kernel) rfl (Nat.le_of_ble_eq_true rfl) (fun p e s m args below meth c ls C hw hl => ?_)
  replace hl : lv_has ls 8 [(0, .ref (E.2.1 (41))), (1, .int p1), (2, .int p2), (3, .int p3), (4, .int p4), (5, .int p5), (6, .int p6)] := hl
  obtain ⟨hx, hb, hml, hown, hts, hK, hSt, hlk, hr⟩ := id C
  unfold f_X5_settingAt at h
  refine lv_iload_n hx hb dX5_settingAt_0 rfl (lv_at hl 2 rfl) ?_
  refine lv_iconst (v := 3) hx hb dX5_settingAt_1 (by decide) ?_
  refine q_min C hl.1 kw_753 (Nat.le_of_ble_eq_true rfl) (Nat.le_of_ble_eq_true rfl) (Nat.le_of_ble_eq_true rfl) ⟨Nat.zero_le _, Nat.zero_le _⟩ dX5_settingAt_2 ?_
  obtain ⟨x7_1, ex7_1, h⟩ := lt_at h
  refine q_top ex7_1 ?_
  refine lv_istore (lv' := [(7, .int x7_1), (0, .ref (E.2.1 (41))), (1, .int p1), (2, .int p2), (3, .int p3), (4, .int p4), (5, .int p5), (6, .int p6)]) hx hb dX5_settingAt_5 hl (by decide) rfl (fun ls hl => ?_)
  refine lv_aload_n hx hb dX5_settingAt_7 rfl (lv_at hl 1 rfl) ?_
  refine gf_5_10 C hw tC_41 kw_302 dX5_settingAt_8 ?_
  by_cases c_2 : (gI σ 41 10) = (1 : Int32)
  · replace h := it_at h c_2
    refine lv_tableIn (off := 37) (tgt := 48) hx hb dX5_settingAt_11 (by rw [c_2]; decide) (by rw [c_2]; decide) (by rw [c_2]; rfl) (by decide) ?_
    refine lv_aload_n hx hb dX5_settingAt_48 rfl (lv_at hl 1 rfl) ?_
    refine gf_5_11 C hw tC_41 kw_303 dX5_settingAt_49 ?_
    obtain ⟨rfl, rfl⟩ := ret_at h
    exact q_iret C hw dX5_settingAt_52
  replace h := ie_at h c_2
  by_cases c_3 : (gI σ 41 10) = (2 : Int32)
  · replace h := it_at h c_3
    refine lv_tableIn (off := 42) (tgt := 53) hx hb dX5_settingAt_11 (by rw [c_3]; decide) (by rw [c_3]; decide) (by rw [c_3]; rfl) (by decide) ?_
    refine lv_aload_n hx hb dX5_settingAt_53 rfl (lv_at hl 1 rfl) ?_
    refine lv_iload hx hb dX5_settingAt_54 (lv_at hl 5 rfl) ?_
    refine lv_iload hx hb dX5_settingAt_56 (lv_at hl 6 rfl) ?_
    refine lv_iload hx hb dX5_settingAt_58 (lv_at hl 7 rfl) ?_
    refine lv_aload_n hx hb dX5_settingAt_60 rfl (lv_at hl 1 rfl) ?_
    refine gf_5_11 C hw tC_41 kw_303 dX5_settingAt_61 ?_
    refine lv_iconst (v := 2) hx hb dX5_settingAt_64 (by decide) ?_
    refine q_irem hx hb dX5_settingAt_65 (by decide) ?_
    refine lv_if_ne (tgt := 74) hx hb dX5_settingAt_66 (by decide) (fun c_4 => ?_) (fun c_4 => ?_)
    · replace h := ie_at h c_4
      refine lv_sipush (v := 170) hx hb dX5_settingAt_74 (by decide) ?_
      exact w_X5_settingAt_77 C _ _ _ _ _ _ _ _ hw (lv_sub hl [1] rfl) h
    · replace h := it_at h c_4
      refine lv_bipush (v := 85) hx hb dX5_settingAt_69 (by decide) ?_
      refine lv_goto (tgt := 77) hx hb dX5_settingAt_71 (by decide) ?_
      exact w_X5_settingAt_77 C _ _ _ _ _ _ _ _ hw (lv_sub hl [1] rfl) h
  replace h := ie_at h c_3
  by_cases c_5 : (gI σ 41 10) = (3 : Int32)
  · replace h := it_at h c_5
    refine lv_tableIn (off := 70) (tgt := 81) hx hb dX5_settingAt_11 (by rw [c_5]; decide) (by rw [c_5]; decide) (by rw [c_5]; rfl) (by decide) ?_
    refine lv_aload_n hx hb dX5_settingAt_81 rfl (lv_at hl 1 rfl) ?_
    refine lv_iload_n hx hb dX5_settingAt_82 rfl (lv_at hl 4 rfl) ?_
    refine lv_iload hx hb dX5_settingAt_83 (lv_at hl 6 rfl) ?_
    refine lv_iload hx hb dX5_settingAt_85 (lv_at hl 7 rfl) ?_
    refine lv_sipush (v := 255) hx hb dX5_settingAt_87 (by decide) ?_
    obtain ⟨r_6, σ_7, h_8, h⟩ := bd_at h
    refine q_afterI hw (q_runV C hw hl.1 (As := [.int p3, .int p5, .int p6, .int (255 : Int32)]) (rest := []) (m_X5_mostMeal l E p3 p5 p6 (255 : Int32) σ r_6 σ_7 h_8) yq_X5_mostMeal tC_41 rfl rfl kw_754 ⟨Nat.le_of_ble_eq_true rfl, Nat.le_of_ble_eq_true rfl⟩ rfl (Nat.le_of_ble_eq_true rfl) ⟨Nat.zero_le _, Nat.zero_le _⟩ dX5_settingAt_90) (fun H locs hw => ?_)
    obtain ⟨rfl, rfl⟩ := ret_at h
    exact q_iret C hw dX5_settingAt_93
  replace h := ie_at h c_5
  by_cases c_9 : (gI σ 41 10) = (4 : Int32)
  · replace h := it_at h c_9
    refine lv_tableIn (off := 83) (tgt := 94) hx hb dX5_settingAt_11 (by rw [c_9]; decide) (by rw [c_9]; decide) (by rw [c_9]; rfl) (by decide) ?_
    refine lv_aload_n hx hb dX5_settingAt_94 rfl (lv_at hl 1 rfl) ?_
    refine lv_iload hx hb dX5_settingAt_95 (lv_at hl 0 rfl) ?_
    refine lv_iload_n hx hb dX5_settingAt_97 rfl (lv_at hl 4 rfl) ?_
    refine lv_iload hx hb dX5_settingAt_98 (lv_at hl 6 rfl) ?_
    refine lv_iload hx hb dX5_settingAt_100 (lv_at hl 7 rfl) ?_
    obtain ⟨r_10, σ_11, h_12, h⟩ := bd_at h
    refine q_afterI hw (q_runV C hw hl.1 (As := [.int x7_1, .int p3, .int p5, .int p6]) (rest := []) (m_X5_bestFrom l E x7_1 p3 p5 p6 σ r_10 σ_11 h_12) yq_X5_bestFrom tC_41 rfl rfl kw_762 ⟨Nat.le_of_ble_eq_true rfl, Nat.le_of_ble_eq_true rfl⟩ rfl (Nat.le_of_ble_eq_true rfl) ⟨Nat.zero_le _, Nat.zero_le _⟩ dX5_settingAt_102) (fun H locs hw => ?_)
    refine lv_bipush (v := 8) hx hb dX5_settingAt_105 (by decide) ?_
    refine q_irem hx hb dX5_settingAt_107 (by decide) ?_
    obtain ⟨rfl, rfl⟩ := ret_at h
    exact q_iret C hw dX5_settingAt_108
  replace h := ie_at h c_9
  by_cases c_13 : (gI σ 41 10) = (5 : Int32)
  · replace h := it_at h c_13
    refine lv_tableIn (off := 98) (tgt := 109) hx hb dX5_settingAt_11 (by rw [c_13]; decide) (by rw [c_13]; decide) (by rw [c_13]; rfl) (by decide) ?_
    refine lv_aload_n hx hb dX5_settingAt_109 rfl (lv_at hl 1 rfl) ?_
    refine lv_iload hx hb dX5_settingAt_110 (lv_at hl 0 rfl) ?_
    refine lv_iload_n hx hb dX5_settingAt_112 rfl (lv_at hl 4 rfl) ?_
    refine lv_iload hx hb dX5_settingAt_113 (lv_at hl 6 rfl) ?_
    refine lv_iload hx hb dX5_settingAt_115 (lv_at hl 7 rfl) ?_
    refine lv_aload_n hx hb dX5_settingAt_117 rfl (lv_at hl 1 rfl) ?_
    refine lv_iload hx hb dX5_settingAt_118 (lv_at hl 6 rfl) ?_
    refine lv_iload hx hb dX5_settingAt_120 (lv_at hl 7 rfl) ?_
    obtain ⟨r_14, σ_15, h_16, h⟩ := bd_at h
    refine q_afterI hw (q_runV C hw hl.1 (As := [.int p5, .int p6]) (rest := [.int p6, .int p5, .int p3, .int x7_1, .ref (E.2.1 (41))]) (m_X5_safeOnes l E p5 p6 σ r_14 σ_15 h_16) yq_X5_safeOnes tC_41 rfl rfl kw_778 ⟨Nat.le_of_ble_eq_true rfl, Nat.le_of_ble_eq_true rfl⟩ rfl (Nat.le_of_ble_eq_true rfl) ⟨Nat.zero_le _, Nat.zero_le _⟩ dX5_settingAt_122) (fun H locs hw => ?_)
    obtain ⟨r_17, σ_18, h_19, h⟩ := bd_at h
    refine q_afterI hw (q_runV C hw hl.1 (As := [.int x7_1, .int p3, .int p5, .int p6, .int r_14]) (rest := []) (m_X5_greatestx l E x7_1 p3 p5 p6 r_14 σ_15 r_17 σ_18 h_19) yq_X5_greatest tC_41 rfl rfl kw_766 ⟨Nat.le_of_ble_eq_true rfl, Nat.le_of_ble_eq_true rfl⟩ rfl (Nat.le_of_ble_eq_true rfl) ⟨Nat.zero_le _, Nat.zero_le _⟩ dX5_settingAt_125) (fun H locs hw => ?_)
    refine lv_bipush (v := 8) hx hb dX5_settingAt_128 (by decide) ?_
    refine q_irem hx hb dX5_settingAt_130 (by decide) ?_
    obtain ⟨rfl, rfl⟩ := ret_at h
    exact q_iret C hw dX5_settingAt_131
  replace h := ie_at h c_13
  by_cases c_20 : (gI σ 41 10) = (6 : Int32)
  · replace h := it_at h c_20
    refine lv_tableIn (off := 121) (tgt := 132) hx hb dX5_settingAt_11 (by rw [c_20]; decide) (by rw [c_20]; decide) (by rw [c_20]; rfl) (by decide) ?_
    refine lv_aload_n hx hb dX5_settingAt_132 rfl (lv_at hl 1 rfl) ?_
    obtain ⟨g_21, h⟩ := gd_at h
    refine gf_5_8 C hw tC_41 kw_300 (c1 := 8) (by decide) (of_decide_eq_true g_21) dX5_settingAt_133 ?_
    refine lv_aload_n hx hb dX5_settingAt_136 rfl (lv_at hl 1 rfl) ?_
    refine gf_5_9 C hw tC_41 kw_301 dX5_settingAt_137 ?_
    refine lv_iload_n hx hb dX5_settingAt_140 rfl (lv_at hl 2 rfl) ?_
    obtain ⟨r_22, σ_23, h_24, h⟩ := bd_at h
    refine q_afterI hw (q_runV C hw hl.1 (As := [.int (gI σ 41 9), .int p1]) (rest := []) (m_X7_told l E (gI σ 41 9) p1 σ r_22 σ_23 h_24) yq_X7_told tC_8 rfl rfl kw_782 ⟨Nat.le_of_ble_eq_true rfl, Nat.le_of_ble_eq_true rfl⟩ rfl (Nat.le_of_ble_eq_true rfl) ⟨Nat.zero_le _, Nat.zero_le _⟩ dX5_settingAt_141) (fun H locs hw => ?_)
    obtain ⟨rfl, rfl⟩ := ret_at h
    exact q_iret C hw dX5_settingAt_144
  replace h := ie_at h c_20
  refine lv_tableOut (tgt := 145) hx hb dX5_settingAt_11 (tsw_out (fun k h1 h2 => by
    rcases (show k = 1 ∨ k = 2 ∨ k = 3 ∨ k = 4 ∨ k = 5 ∨ k = 6 by omega) with rfl | rfl | rfl | rfl | rfl | rfl
    · exact c_2
    · exact c_3
    · exact c_5
    · exact c_9
    · exact c_13
    · exact c_20)) (by decide) ?_
  refine lv_iconst (v := 0) hx hb dX5_settingAt_145 (by decide) ?_
  obtain ⟨rfl, rfl⟩ := ret_at h
  exact q_iret C hw dX5_settingAt_146
def f_X5_meanOf_164 (rc : Int32 → Int32 → Int32 → Int32 → Int32 → Mem → Option (Int32 × Mem)) (x7 : Int64) (s0 : Int32) (σ : Mem) : Option (Int32 × Mem) :=
  some (s0 + ((x7 / (1000 : Int64)).toInt32), σ)
def f_X5_meanOf_144 (rc : Int32 → Int32 → Int32 → Int32 → Int32 → Mem → Option (Int32 × Mem)) (x6 : Int32) (x7 : Int64) (σ : Mem) : Option (Int32 × Mem) :=
  if (gI σ 41 14) = 0 then
    (bd (f_X3_mealOf x6 σ) fun r_32 σ_33 =>
    f_X5_meanOf_164 rc x7 (r_32 * (1000 : Int32)) σ_33)
  else
    f_X5_meanOf_164 rc x7 (0 : Int32) σ
def f_X5_meanOf_138 (rc : Int32 → Int32 → Int32 → Int32 → Int32 → Mem → Option (Int32 × Mem)) (k74 : Int32 → Int32 → Int32 → Int64 → Int32 → Mem → Option (Int32 × Mem)) (x1 : Int32) (x2 : Int32) (x6 : Int32) (x7 : Int64) (x9 : Int32) (σ : Mem) : Option (Int32 × Mem) :=
  lt (x9 + (1 : Int32)) fun x9_35 =>
  k74 x1 x2 x6 x7 x9_35 σ
def f_X5_meanOf_74 (rc : Int32 → Int32 → Int32 → Int32 → Int32 → Mem → Option (Int32 × Mem)) (k74 : Int32 → Int32 → Int32 → Int64 → Int32 → Mem → Option (Int32 × Mem)) (x1 : Int32) (x2 : Int32) (x6 : Int32) (x7 : Int64) (x9 : Int32) (σ : Mem) : Option (Int32 × Mem) :=
  if (6 : Int32) ≤ x9 then
    (f_X5_meanOf_144 rc x6 x7 σ)
  else
    if (gI σ 41 12) ≤ (x1 + (1 : Int32)) then
      (f_X5_meanOf_144 rc x6 x7 σ)
    else
      gd (decide (gI σ 41 7 = nI 5)) <|
      bd (f_X10_chanceOf x2 x9 σ) fun r_17 σ_18 =>
      if r_17 ≤ 0 then
        (f_X5_meanOf_138 rc k74 x1 x2 x6 x7 x9 σ_18)
      else
        bd (f_X3_heatOf x6 σ_18) fun r_21 σ_22 =>
        bd (f_X3_dullOf x6 σ_22) fun r_24 σ_25 =>
        bd (rc (x1 + (1 : Int32)) x9 x2 r_21 r_24 σ_25) fun r_27 σ_28 =>
        lt (x7 + ((r_17.toInt64) * (r_27.toInt64))) fun x7_30 =>
        f_X5_meanOf_138 rc k74 x1 x2 x6 x7_30 x9 σ_28
def f_X5_meanOf_46 (rc : Int32 → Int32 → Int32 → Int32 → Int32 → Mem → Option (Int32 × Mem)) (x1 : Int32) (x2 : Int32) (x6 : Int32) (σ : Mem) : Option (Int32 × Mem) :=
  bd (f_X3_isAway x6 σ) fun r_9 σ_10 =>
  if r_9 = 0 then
    (fx6 (f_X5_meanOf_74 rc) FU x1 x2 x6 (0 : Int64) (0 : Int32) σ_10)
  else
    if (gI σ_10 41 14) = 0 then
      (some ((0 : Int32), σ_10))
    else
      some ((1000000 : Int32), σ_10)
def f_X5_meanOf (rc : Int32 → Int32 → Int32 → Int32 → Int32 → Mem → Option (Int32 × Mem)) (p1 : Int32) (p2 : Int32) (p3 : Int32) (p4 : Int32) (p5 : Int32) (σ : Mem) : Option (Int32 × Mem) :=
  if p1 = (gI σ 41 13) then
    (f_X5_meanOf_46 rc p1 p2 (0 : Int32) σ)
  else
    bd (f_X5_settingAt p1 ((gI σ 41 12) - p1) p2 p3 p4 p5 σ) fun r_2 σ_3 =>
    gd (im (gI σ_3 41 6)) <|
    bd (f_X3_hourBy ((gI σ_3 41 6).toNatClampNeg) p2 r_2 p4 p5 σ_3) fun r_6 σ_7 =>
    f_X5_meanOf_46 rc p1 p2 r_6 σ_7
set_option maxHeartbeats 4000000 in
set_option maxRecDepth 100000 in
theorem w_X5_meanOf_164 {p : Program} {l : Launch} {e : Env} {s : State} {m : MethodId} {args : Array Value} {below : List Frame} {meth : Method} {c : Code} {E : EV} {rr : Int32} {τ : Mem} (C : Cx E p s m args meth c cX5_meanOf 11 (some .int) RX5) {rc : Int32 → Int32 → Int32 → Int32 → Int32 → Mem → Option (Int32 × Mem)} {fr lo : Nat} (hF : 200 ≤ fr) (hL : 8000 ≤ lo) (hrc : ∀ (p1 : Int32) (p2 : Int32) (p3 : Int32) (p4 : Int32) (p5 : Int32) (σ : Mem) (rr : Int32) (τ : Mem), rc p1 p2 p3 p4 p5 σ = some (rr, τ) → MI TC l E yX5_meanFrom cX5_meanFrom 8 (some .int) fr lo [.ref (E.2.1 (41)), .int p1, .int p2, .int p3, .int p4, .int p5] σ rr τ) : ∀ (x7 : Int64) (s0 : Int32) (σ : Mem) (H : Heap) (locs : List Loc) (ls : Array Slot) (hw : Wd TC E σ s H locs) (hl : lv_has ls 11 [(0, .ref (E.2.1 (41))), (7, .long x7)]) (h : f_X5_meanOf_164 rc x7 s0 σ = some (rr, τ)), W p l e { frames := fr + 1, cells := 0, slots := 0, locals := lo + 27 } s m args below meth c H locs 0 0 (MQ below (QI TC E rr τ) args s 0 0 E.2.2.1) (F0 m 164 ls [.int s0]) := by
  obtain ⟨hx, hb, hml, hown, hts, hK, hSt, hlk, hr⟩ := id C
  intro x7 s0 σ H locs ls hw hl h
  unfold f_X5_meanOf_164 at h
  refine lv_istore (lv' := [(9, .int s0), (0, .ref (E.2.1 (41))), (7, .long x7)]) hx hb dX5_meanOf_164 hl (by decide) rfl (fun ls hl => ?_)
  refine lv_iload hx hb dX5_meanOf_166 (lv_at hl 0 rfl) ?_
  refine lv_lload hx hb dX5_meanOf_168 (lv_at hl 2 rfl) ?_
  refine lv_ldc2 hx hb hown (hts _ kw_777) dX5_meanOf_170 ?_
  refine lv_ldiv hx hb dX5_meanOf_173 (by decide) ?_
  refine lv_l2i hx hb dX5_meanOf_174 rfl ?_
  refine lv_iadd hx hb dX5_meanOf_175 ?_
  obtain ⟨rfl, rfl⟩ := ret_at h
  exact q_iret C hw dX5_meanOf_176
set_option maxHeartbeats 4000000 in
set_option maxRecDepth 100000 in
theorem w_X5_meanOf_144 {p : Program} {l : Launch} {e : Env} {s : State} {m : MethodId} {args : Array Value} {below : List Frame} {meth : Method} {c : Code} {E : EV} {rr : Int32} {τ : Mem} (C : Cx E p s m args meth c cX5_meanOf 11 (some .int) RX5) {rc : Int32 → Int32 → Int32 → Int32 → Int32 → Mem → Option (Int32 × Mem)} {fr lo : Nat} (hF : 200 ≤ fr) (hL : 8000 ≤ lo) (hrc : ∀ (p1 : Int32) (p2 : Int32) (p3 : Int32) (p4 : Int32) (p5 : Int32) (σ : Mem) (rr : Int32) (τ : Mem), rc p1 p2 p3 p4 p5 σ = some (rr, τ) → MI TC l E yX5_meanFrom cX5_meanFrom 8 (some .int) fr lo [.ref (E.2.1 (41)), .int p1, .int p2, .int p3, .int p4, .int p5] σ rr τ) : ∀ (x6 : Int32) (x7 : Int64) (σ : Mem) (H : Heap) (locs : List Loc) (ls : Array Slot) (hw : Wd TC E σ s H locs) (hl : lv_has ls 11 [(0, .ref (E.2.1 (41))), (6, .int x6), (7, .long x7)]) (h : f_X5_meanOf_144 rc x6 x7 σ = some (rr, τ)), W p l e { frames := fr + 1, cells := 0, slots := 0, locals := lo + 27 } s m args below meth c H locs 0 0 (MQ below (QI TC E rr τ) args s 0 0 E.2.2.1) (F0 m 144 ls []) := by
  obtain ⟨hx, hb, hml, hown, hts, hK, hSt, hlk, hr⟩ := id C
  intro x6 x7 σ H locs ls hw hl h
  unfold f_X5_meanOf_144 at h
  refine lv_aload_n hx hb dX5_meanOf_144 rfl (lv_at hl 0 rfl) ?_
  refine gf_5_14 C hw tC_41 kw_306 dX5_meanOf_145 ?_
  refine lv_if_eq (tgt := 155) hx hb dX5_meanOf_148 (by decide) (fun c_31 => ?_) (fun c_31 => ?_)
  · replace h := it_at h c_31
    refine lv_iload hx hb dX5_meanOf_155 (lv_at hl 1 rfl) ?_
    obtain ⟨r_32, σ_33, h_34, h⟩ := bd_at h
    refine q_afterI hw (q_runS C hw hl.1 (As := [.int x6]) (rest := []) (m_X3_mealOf l E x6 σ r_32 σ_33 h_34) yq_X3_mealOf kw_761 ⟨by dsimp only; omega, by dsimp only; omega⟩ rfl (Nat.le_of_ble_eq_true rfl) ⟨Nat.zero_le _, Nat.zero_le _⟩ dX5_meanOf_157) (fun H locs hw => ?_)
    refine lv_sipush (v := 1000) hx hb dX5_meanOf_160 (by decide) ?_
    refine lv_imul hx hb dX5_meanOf_163 ?_
    exact w_X5_meanOf_164 C hF hL hrc _ _ _ _ _ _ hw (lv_sub hl [0, 2] rfl) h
  · replace h := ie_at h c_31
    refine lv_iconst (v := 0) hx hb dX5_meanOf_151 (by decide) ?_
    refine lv_goto (tgt := 164) hx hb dX5_meanOf_152 (by decide) ?_
    exact w_X5_meanOf_164 C hF hL hrc _ _ _ _ _ _ hw (lv_sub hl [0, 2] rfl) h
set_option maxHeartbeats 4000000 in
set_option maxRecDepth 100000 in
theorem w_X5_meanOf_138 {p : Program} {l : Launch} {e : Env} {s : State} {m : MethodId} {args : Array Value} {below : List Frame} {meth : Method} {c : Code} {E : EV} {rr : Int32} {τ : Mem} (C : Cx E p s m args meth c cX5_meanOf 11 (some .int) RX5) {rc : Int32 → Int32 → Int32 → Int32 → Int32 → Mem → Option (Int32 × Mem)} {fr lo : Nat} (hF : 200 ≤ fr) (hL : 8000 ≤ lo) (hrc : ∀ (p1 : Int32) (p2 : Int32) (p3 : Int32) (p4 : Int32) (p5 : Int32) (σ : Mem) (rr : Int32) (τ : Mem), rc p1 p2 p3 p4 p5 σ = some (rr, τ) → MI TC l E yX5_meanFrom cX5_meanFrom 8 (some .int) fr lo [.ref (E.2.1 (41)), .int p1, .int p2, .int p3, .int p4, .int p5] σ rr τ) (k74 : Int32 → Int32 → Int32 → Int64 → Int32 → Mem → Option (Int32 × Mem)) (hk74 : ∀ (x1 : Int32) (x2 : Int32) (x6 : Int32) (x7 : Int64) (x9 : Int32) (σ : Mem) (H : Heap) (locs : List Loc) (ls : Array Slot) (hw : Wd TC E σ s H locs) (hl : lv_has ls 11 [(0, .ref (E.2.1 (41))), (1, .int x1), (2, .int x2), (6, .int x6), (7, .long x7), (9, .int x9)]) (h : k74 x1 x2 x6 x7 x9 σ = some (rr, τ)), W p l e { frames := fr + 1, cells := 0, slots := 0, locals := lo + 27 } s m args below meth c H locs 0 0 (MQ below (QI TC E rr τ) args s 0 0 E.2.2.1) (F0 m 74 ls [])) : ∀ (x1 : Int32) (x2 : Int32) (x6 : Int32) (x7 : Int64) (x9 : Int32) (σ : Mem) (H : Heap) (locs : List Loc) (ls : Array Slot) (hw : Wd TC E σ s H locs) (hl : lv_has ls 11 [(0, .ref (E.2.1 (41))), (1, .int x1), (2, .int x2), (6, .int x6), (7, .long x7), (9, .int x9)]) (h : f_X5_meanOf_138 rc k74 x1 x2 x6 x7 x9 σ = some (rr, τ)), W p l e { frames := fr + 1, cells := 0, slots := 0, locals := lo + 27 } s m args below meth c H locs 0 0 (MQ below (QI TC E rr τ) args s 0 0 E.2.2.1) (F0 m 138 ls []) := by
  obtain ⟨hx, hb, hml, hown, hts, hK, hSt, hlk, hr⟩ := id C
  intro x1 x2 x6 x7 x9 σ H locs ls hw hl h
  unfold f_X5_meanOf_138 at h
  obtain ⟨x9_35, ex9_35, h⟩ := lt_at h
  refine lv_iinc (v := x9_35) (lv' := [(9, .int x9_35), (0, .ref (E.2.1 (41))), (1, .int x1), (2, .int x2), (6, .int x6), (7, .long x7)]) hx hb dX5_meanOf_138 hl (k := 5) rfl (by rw [ex9_35]; rfl) (by decide) rfl (fun ls hl => ?_)
  refine lv_goto (tgt := 74) hx hb dX5_meanOf_141 (by decide) ?_
  exact hk74 _ _ _ _ _ _ _ _ _ hw (lv_sub hl [1, 2, 3, 4, 5, 0] rfl) h
set_option maxHeartbeats 4000000 in
set_option maxRecDepth 100000 in
theorem w_X5_meanOf_74 {p : Program} {l : Launch} {e : Env} {s : State} {m : MethodId} {args : Array Value} {below : List Frame} {meth : Method} {c : Code} {E : EV} {rr : Int32} {τ : Mem} (C : Cx E p s m args meth c cX5_meanOf 11 (some .int) RX5) {rc : Int32 → Int32 → Int32 → Int32 → Int32 → Mem → Option (Int32 × Mem)} {fr lo : Nat} (hF : 200 ≤ fr) (hL : 8000 ≤ lo) (hrc : ∀ (p1 : Int32) (p2 : Int32) (p3 : Int32) (p4 : Int32) (p5 : Int32) (σ : Mem) (rr : Int32) (τ : Mem), rc p1 p2 p3 p4 p5 σ = some (rr, τ) → MI TC l E yX5_meanFrom cX5_meanFrom 8 (some .int) fr lo [.ref (E.2.1 (41)), .int p1, .int p2, .int p3, .int p4, .int p5] σ rr τ) : ∀ (n : Nat) (x1 : Int32) (x2 : Int32) (x6 : Int32) (x7 : Int64) (x9 : Int32) (σ : Mem) (H : Heap) (locs : List Loc) (ls : Array Slot) (hw : Wd TC E σ s H locs) (hl : lv_has ls 11 [(0, .ref (E.2.1 (41))), (1, .int x1), (2, .int x2), (6, .int x6), (7, .long x7), (9, .int x9)]) (h : fx6 (f_X5_meanOf_74 rc) n x1 x2 x6 x7 x9 σ = some (rr, τ)), W p l e { frames := fr + 1, cells := 0, slots := 0, locals := lo + 27 } s m args below meth c H locs 0 0 (MQ below (QI TC E rr τ) args s 0 0 E.2.2.1) (F0 m 74 ls []) := by
  obtain ⟨hx, hb, hml, hown, hts, hK, hSt, hlk, hr⟩ := id C
  intro n
  induction n with
  | zero =>
    intro x1 x2 x6 x7 x9 σ H locs ls hw hl h
    have h : none = some (rr, τ) := h
    cases h
  | succ n hk74 =>
    intro x1 x2 x6 x7 x9 σ H locs ls hw hl h
    replace h : f_X5_meanOf_74 rc (fx6 (f_X5_meanOf_74 rc) n) x1 x2 x6 x7 x9 σ = some (rr, τ) := h
    unfold f_X5_meanOf_74 at h
    refine lv_iload hx hb dX5_meanOf_74 (lv_at hl 5 rfl) ?_
    refine lv_bipush (v := 6) hx hb dX5_meanOf_76 (by decide) ?_
    refine lv_icmp_ge (tgt := 144) hx hb dX5_meanOf_78 (by decide) (fun c_14 => ?_) (fun c_14 => ?_)
    · replace h := it_at h c_14
      exact w_X5_meanOf_144 C hF hL hrc _ _ _ _ _ _ hw (lv_sub hl [0, 3, 4] rfl) h
    · replace h := ie_at h c_14
      refine lv_iload_n hx hb dX5_meanOf_81 rfl (lv_at hl 1 rfl) ?_
      refine lv_iconst (v := 1) hx hb dX5_meanOf_82 (by decide) ?_
      refine lv_iadd hx hb dX5_meanOf_83 ?_
      refine lv_aload_n hx hb dX5_meanOf_84 rfl (lv_at hl 0 rfl) ?_
      refine gf_5_12 C hw tC_41 kw_304 dX5_meanOf_85 ?_
      refine lv_icmp_ge (tgt := 144) hx hb dX5_meanOf_88 (by decide) (fun c_15 => ?_) (fun c_15 => ?_)
      · replace h := it_at h c_15
        exact w_X5_meanOf_144 C hF hL hrc _ _ _ _ _ _ hw (lv_sub hl [0, 3, 4] rfl) h
      · replace h := ie_at h c_15
        refine lv_aload_n hx hb dX5_meanOf_91 rfl (lv_at hl 0 rfl) ?_
        obtain ⟨g_16, h⟩ := gd_at h
        refine gf_5_7 C hw tC_41 kw_299 (c1 := 5) (by decide) (of_decide_eq_true g_16) dX5_meanOf_92 ?_
        refine lv_iload_n hx hb dX5_meanOf_95 rfl (lv_at hl 2 rfl) ?_
        refine lv_iload hx hb dX5_meanOf_96 (lv_at hl 5 rfl) ?_
        obtain ⟨r_17, σ_18, h_19, h⟩ := bd_at h
        refine q_afterI hw (q_runV C hw hl.1 (As := [.int x2, .int x9]) (rest := []) (m_X10_chanceOf l E x2 x9 σ r_17 σ_18 h_19) yq_X10_chanceOf tC_5 rfl rfl kw_774 ⟨by dsimp only; omega, by dsimp only; omega⟩ rfl (Nat.le_of_ble_eq_true rfl) ⟨Nat.zero_le _, Nat.zero_le _⟩ dX5_meanOf_98) (fun H locs hw => ?_)
        refine lv_istore (lv' := [(10, .int r_17), (0, .ref (E.2.1 (41))), (1, .int x1), (2, .int x2), (6, .int x6), (7, .long x7), (9, .int x9)]) hx hb dX5_meanOf_101 hl (by decide) rfl (fun ls hl => ?_)
        refine lv_iload hx hb dX5_meanOf_103 (lv_at hl 0 rfl) ?_
        refine lv_if_le (tgt := 138) hx hb dX5_meanOf_105 (by decide) (fun c_20 => ?_) (fun c_20 => ?_)
        · replace h := it_at h c_20
          exact w_X5_meanOf_138 C hF hL hrc _ hk74 _ _ _ _ _ _ _ _ _ hw (lv_sub hl [1, 2, 3, 4, 5, 6] rfl) h
        · replace h := ie_at h c_20
          refine lv_lload hx hb dX5_meanOf_108 (lv_at hl 5 rfl) ?_
          refine lv_iload hx hb dX5_meanOf_110 (lv_at hl 0 rfl) ?_
          refine lv_i2l hx hb dX5_meanOf_112 rfl ?_
          refine lv_aload_n hx hb dX5_meanOf_113 rfl (lv_at hl 1 rfl) ?_
          refine lv_iload_n hx hb dX5_meanOf_114 rfl (lv_at hl 2 rfl) ?_
          refine lv_iconst (v := 1) hx hb dX5_meanOf_115 (by decide) ?_
          refine lv_iadd hx hb dX5_meanOf_116 ?_
          refine lv_iload hx hb dX5_meanOf_117 (lv_at hl 6 rfl) ?_
          refine lv_iload_n hx hb dX5_meanOf_119 rfl (lv_at hl 3 rfl) ?_
          refine lv_iload hx hb dX5_meanOf_120 (lv_at hl 4 rfl) ?_
          obtain ⟨r_21, σ_22, h_23, h⟩ := bd_at h
          refine q_afterI hw (q_runS C hw hl.1 (As := [.int x6]) (rest := [.int x2, .int x9, .int (x1 + (1 : Int32)), .ref (E.2.1 (41)), .long (r_17.toInt64), .long x7]) (m_X3_heatOf l E x6 σ_18 r_21 σ_22 h_23) yq_X3_heatOf kw_775 ⟨by dsimp only; omega, by dsimp only; omega⟩ rfl (Nat.le_of_ble_eq_true rfl) ⟨Nat.zero_le _, Nat.zero_le _⟩ dX5_meanOf_122) (fun H locs hw => ?_)
          refine lv_iload hx hb dX5_meanOf_125 (lv_at hl 4 rfl) ?_
          obtain ⟨r_24, σ_25, h_26, h⟩ := bd_at h
          refine q_afterI hw (q_runS12 C hw hl.1 (As := [.int x6]) (rest := [.int r_21, .int x2, .int x9, .int (x1 + (1 : Int32)), .ref (E.2.1 (41)), .long (r_17.toInt64), .long x7]) (m_X3_dullOf l E x6 σ_22 r_24 σ_25 h_26) yq_X3_dullOf kw_776 ⟨by dsimp only; omega, by dsimp only; omega⟩ rfl (Nat.le_of_ble_eq_true rfl) ⟨Nat.zero_le _, Nat.zero_le _⟩ dX5_meanOf_127) (fun H locs hw => ?_)
          obtain ⟨r_27, σ_28, h_29, h⟩ := bd_at h
          refine q_afterI hw (q_runV C hw hl.1 (As := [.int (x1 + (1 : Int32)), .int x9, .int x2, .int r_21, .int r_24]) (rest := [.long (r_17.toInt64), .long x7]) (hrc (x1 + (1 : Int32)) x9 x2 r_21 r_24 σ_25 r_27 σ_28 h_29) yq_X5_meanFrom tC_41 rfl rfl kw_799 ⟨by dsimp only; omega, by dsimp only; omega⟩ rfl (Nat.le_of_ble_eq_true rfl) ⟨Nat.zero_le _, Nat.zero_le _⟩ dX5_meanOf_130) (fun H locs hw => ?_)
          refine lv_i2l hx hb dX5_meanOf_133 rfl ?_
          refine lv_lmul hx hb dX5_meanOf_134 ?_
          refine lv_ladd hx hb dX5_meanOf_135 ?_
          obtain ⟨x7_30, ex7_30, h⟩ := lt_at h
          refine q_topl ex7_30 ?_
          refine lv_lstore (lv' := [(7, .long x7_30), (10, .int r_17), (0, .ref (E.2.1 (41))), (1, .int x1), (2, .int x2), (6, .int x6), (9, .int x9)]) hx hb dX5_meanOf_136 hl (by decide) rfl (fun ls hl => ?_)
          exact w_X5_meanOf_138 C hF hL hrc _ hk74 _ _ _ _ _ _ _ _ _ hw (lv_sub hl [2, 3, 4, 5, 0, 6] rfl) h
set_option maxHeartbeats 4000000 in
set_option maxRecDepth 100000 in
theorem w_X5_meanOf_46 {p : Program} {l : Launch} {e : Env} {s : State} {m : MethodId} {args : Array Value} {below : List Frame} {meth : Method} {c : Code} {E : EV} {rr : Int32} {τ : Mem} (C : Cx E p s m args meth c cX5_meanOf 11 (some .int) RX5) {rc : Int32 → Int32 → Int32 → Int32 → Int32 → Mem → Option (Int32 × Mem)} {fr lo : Nat} (hF : 200 ≤ fr) (hL : 8000 ≤ lo) (hrc : ∀ (p1 : Int32) (p2 : Int32) (p3 : Int32) (p4 : Int32) (p5 : Int32) (σ : Mem) (rr : Int32) (τ : Mem), rc p1 p2 p3 p4 p5 σ = some (rr, τ) → MI TC l E yX5_meanFrom cX5_meanFrom 8 (some .int) fr lo [.ref (E.2.1 (41)), .int p1, .int p2, .int p3, .int p4, .int p5] σ rr τ) : ∀ (x1 : Int32) (x2 : Int32) (x6 : Int32) (σ : Mem) (H : Heap) (locs : List Loc) (ls : Array Slot) (hw : Wd TC E σ s H locs) (hl : lv_has ls 11 [(0, .ref (E.2.1 (41))), (1, .int x1), (2, .int x2), (6, .int x6)]) (h : f_X5_meanOf_46 rc x1 x2 x6 σ = some (rr, τ)), W p l e { frames := fr + 1, cells := 0, slots := 0, locals := lo + 27 } s m args below meth c H locs 0 0 (MQ below (QI TC E rr τ) args s 0 0 E.2.2.1) (F0 m 46 ls []) := by
  obtain ⟨hx, hb, hml, hown, hts, hK, hSt, hlk, hr⟩ := id C
  intro x1 x2 x6 σ H locs ls hw hl h
  unfold f_X5_meanOf_46 at h
  refine lv_iload hx hb dX5_meanOf_46 (lv_at hl 3 rfl) ?_
  obtain ⟨r_9, σ_10, h_11, h⟩ := bd_at h
  refine q_afterI hw (q_runS C hw hl.1 (As := [.int x6]) (rest := []) (m_X3_isAway l E x6 σ r_9 σ_10 h_11) yq_X3_isAway kw_760 ⟨by dsimp only; omega, by dsimp only; omega⟩ rfl (Nat.le_of_ble_eq_true rfl) ⟨Nat.zero_le _, Nat.zero_le _⟩ dX5_meanOf_48) (fun H locs hw => ?_)
  refine lv_if_eq (tgt := 68) hx hb dX5_meanOf_51 (by decide) (fun c_12 => ?_) (fun c_12 => ?_)
  · replace h := it_at h c_12
    refine lv_lconst (v := 0) hx hb dX5_meanOf_68 (by decide) ?_
    refine lv_lstore (lv' := [(7, .long (0 : Int64)), (0, .ref (E.2.1 (41))), (1, .int x1), (2, .int x2), (6, .int x6)]) hx hb dX5_meanOf_69 hl (by decide) rfl (fun ls hl => ?_)
    refine lv_iconst (v := 0) hx hb dX5_meanOf_71 (by decide) ?_
    refine lv_istore (lv' := [(9, .int (0 : Int32)), (7, .long (0 : Int64)), (0, .ref (E.2.1 (41))), (1, .int x1), (2, .int x2), (6, .int x6)]) hx hb dX5_meanOf_72 hl (by decide) rfl (fun ls hl => ?_)
    exact w_X5_meanOf_74 C hF hL hrc _ _ _ _ _ _ _ _ _ _ hw (lv_sub hl [2, 3, 4, 5, 1, 0] rfl) h
  · replace h := ie_at h c_12
    refine lv_aload_n hx hb dX5_meanOf_54 rfl (lv_at hl 0 rfl) ?_
    refine gf_5_14 C hw tC_41 kw_306 dX5_meanOf_55 ?_
    refine lv_if_eq (tgt := 66) hx hb dX5_meanOf_58 (by decide) (fun c_13 => ?_) (fun c_13 => ?_)
    · replace h := it_at h c_13
      refine lv_iconst (v := 0) hx hb dX5_meanOf_66 (by decide) ?_
      obtain ⟨rfl, rfl⟩ := ret_at h
      exact q_iret C hw dX5_meanOf_67
    · replace h := ie_at h c_13
      refine lv_ldc hx hb hown (hts _ kw_808) dX5_meanOf_61 ?_
      refine lv_goto (tgt := 67) hx hb dX5_meanOf_63 (by decide) ?_
      obtain ⟨rfl, rfl⟩ := ret_at h
      exact q_iret C hw dX5_meanOf_67
set_option maxHeartbeats 4000000 in
set_option maxRecDepth 100000 in
theorem m_X5_meanOf (l : Launch) (E : EV) (rc : Int32 → Int32 → Int32 → Int32 → Int32 → Mem → Option (Int32 × Mem)) {fr lo : Nat} (hF : 200 ≤ fr) (hL : 8000 ≤ lo) (hrc : ∀ (p1 : Int32) (p2 : Int32) (p3 : Int32) (p4 : Int32) (p5 : Int32) (σ : Mem) (rr : Int32) (τ : Mem), rc p1 p2 p3 p4 p5 σ = some (rr, τ) → MI TC l E yX5_meanFrom cX5_meanFrom 8 (some .int) fr lo [.ref (E.2.1 (41)), .int p1, .int p2, .int p3, .int p4, .int p5] σ rr τ) (p1 : Int32) (p2 : Int32) (p3 : Int32) (p4 : Int32) (p5 : Int32) (σ : Mem) (rr : Int32) (τ : Mem) (h : f_X5_meanOf rc p1 p2 p3 p4 p5 σ = some (rr, τ)) : MI TC l E yX5_meanOf cX5_meanOf 11 (some .int) (fr + 1) (lo + 27) [.ref (E.2.1 (41)), .int p1, .int p2, .int p3, .int p4, .int p5] σ rr τ := by
  refine mt_start RX5 (by decide +kernel) rfl (Nat.le_of_ble_eq_true rfl) (fun p e s m args below meth c ls C hw hl => ?_)
  replace hl : lv_has ls 11 [(0, .ref (E.2.1 (41))), (1, .int p1), (2, .int p2), (3, .int p3), (4, .int p4), (5, .int p5)] := hl
  obtain ⟨hx, hb, hml, hown, hts, hK, hSt, hlk, hr⟩ := id C
  unfold f_X5_meanOf at h
  refine lv_iconst (v := 0) hx hb dX5_meanOf_0 (by decide) ?_
  refine lv_istore (lv' := [(6, .int (0 : Int32)), (0, .ref (E.2.1 (41))), (1, .int p1), (2, .int p2), (3, .int p3), (4, .int p4), (5, .int p5)]) hx hb dX5_meanOf_1 hl (by decide) rfl (fun ls hl => ?_)
  refine lv_iload_n hx hb dX5_meanOf_3 rfl (lv_at hl 2 rfl) ?_
  refine lv_aload_n hx hb dX5_meanOf_4 rfl (lv_at hl 1 rfl) ?_
  refine gf_5_13 C hw tC_41 kw_305 dX5_meanOf_5 ?_
  refine lv_icmp_eq (tgt := 46) hx hb dX5_meanOf_8 (by decide) (fun c_1 => ?_) (fun c_1 => ?_)
  · replace h := it_at h c_1
    exact w_X5_meanOf_46 C hF hL hrc _ _ _ _ _ _ _ hw (lv_sub hl [1, 2, 3, 0] rfl) h
  · replace h := ie_at h c_1
    refine lv_aload_n hx hb dX5_meanOf_11 rfl (lv_at hl 1 rfl) ?_
    refine lv_iload_n hx hb dX5_meanOf_12 rfl (lv_at hl 2 rfl) ?_
    refine lv_aload_n hx hb dX5_meanOf_13 rfl (lv_at hl 1 rfl) ?_
    refine gf_5_12 C hw tC_41 kw_304 dX5_meanOf_14 ?_
    refine lv_iload_n hx hb dX5_meanOf_17 rfl (lv_at hl 2 rfl) ?_
    refine lv_isub hx hb dX5_meanOf_18 ?_
    refine lv_iload_n hx hb dX5_meanOf_19 rfl (lv_at hl 3 rfl) ?_
    refine lv_iload_n hx hb dX5_meanOf_20 rfl (lv_at hl 4 rfl) ?_
    refine lv_iload hx hb dX5_meanOf_21 (lv_at hl 5 rfl) ?_
    refine lv_iload hx hb dX5_meanOf_23 (lv_at hl 6 rfl) ?_
    obtain ⟨r_2, σ_3, h_4, h⟩ := bd_at h
    refine q_afterI hw (q_runV C hw hl.1 (As := [.int p1, .int ((gI σ 41 12) - p1), .int p2, .int p3, .int p4, .int p5]) (rest := []) (m_X5_settingAt l E p1 ((gI σ 41 12) - p1) p2 p3 p4 p5 σ r_2 σ_3 h_4) yq_X5_settingAt tC_41 rfl rfl kw_807 ⟨by dsimp only; omega, by dsimp only; omega⟩ rfl (Nat.le_of_ble_eq_true rfl) ⟨Nat.zero_le _, Nat.zero_le _⟩ dX5_meanOf_25) (fun H locs hw => ?_)
    refine lv_istore (lv' := [(7, .int r_2), (6, .int (0 : Int32)), (0, .ref (E.2.1 (41))), (1, .int p1), (2, .int p2), (3, .int p3), (4, .int p4), (5, .int p5)]) hx hb dX5_meanOf_28 hl (by decide) rfl (fun ls hl => ?_)
    refine lv_aload_n hx hb dX5_meanOf_30 rfl (lv_at hl 2 rfl) ?_
    obtain ⟨g_5, h⟩ := gd_at h
    refine gm_5_6 C hw tC_41 kw_298 g_5 dX5_meanOf_31 ?_
    refine lv_iload_n hx hb dX5_meanOf_34 rfl (lv_at hl 4 rfl) ?_
    refine lv_iload hx hb dX5_meanOf_35 (lv_at hl 0 rfl) ?_
    refine lv_iload hx hb dX5_meanOf_37 (lv_at hl 6 rfl) ?_
    refine lv_iload hx hb dX5_meanOf_39 (lv_at hl 7 rfl) ?_
    obtain ⟨r_6, σ_7, h_8, h⟩ := bd_at h
    refine q_afterI hw (q_runV C hw hl.1 (As := [.int p2, .int r_2, .int p4, .int p5]) (rest := []) (m_X3_hourBy l E ((gI σ_3 41 6).toNatClampNeg) ((im_at g_5).1) p2 r_2 p4 p5 σ_3 r_6 σ_7 h_8) yq_X3_hourBy (mo_T (im_at g_5).1).1 rfl rfl kw_758 ⟨by dsimp only; omega, by dsimp only; omega⟩ rfl (Nat.le_of_ble_eq_true rfl) ⟨Nat.zero_le _, Nat.zero_le _⟩ dX5_meanOf_41) (fun H locs hw => ?_)
    refine lv_istore (lv' := [(6, .int r_6), (7, .int r_2), (0, .ref (E.2.1 (41))), (1, .int p1), (2, .int p2), (3, .int p3), (4, .int p4), (5, .int p5)]) hx hb dX5_meanOf_44 hl (by decide) rfl (fun ls hl => ?_)
    exact w_X5_meanOf_46 C hF hL hrc _ _ _ _ _ _ _ hw (lv_sub hl [2, 3, 4, 0] rfl) h
def f_X5_meanFrom_13 (rc : Int32 → Int32 → Int32 → Int32 → Int32 → Mem → Option (Int32 × Mem)) (x1 : Int32) (x2 : Int32) (x3 : Int32) (x4 : Int32) (x5 : Int32) (s0 : Int32) (σ : Mem) : Option (Int32 × Mem) :=
  lt (((((((x1 * (6 : Int32)) + s0) * (6 : Int32)) + x2) * (100 : Int32)) + (x4 * (10 : Int32))) + x5) fun x7_2 =>
  if (gI σ 41 12) ≤ x1 then
    (some ((0 : Int32), σ))
  else
    if x7_2 < 0 then
      (some ((0 : Int32), σ))
    else
      if x7_2 < (21600 : Int32) then
        (gd (ib x7_2 21600) <|
        if (gI σ 45 x7_2.toNatClampNeg) = (gI σ 41 5) then
          (gd (ib x7_2 21600) <|
          some (gI σ 44 x7_2.toNatClampNeg, σ))
        else
          bd (f_X5_meanOf rc x1 x2 x3 x4 x5 σ) fun r_9 σ_10 =>
          gd (ib x7_2 21600) <|
          lt (sI σ_10 44 x7_2.toNatClampNeg r_9) fun σ_12 =>
          gd (ib x7_2 21600) <|
          lt (sI σ_12 45 x7_2.toNatClampNeg (gI σ_12 41 5)) fun σ_14 =>
          gd (ib x7_2 21600) <|
          some (gI σ_14 44 x7_2.toNatClampNeg, σ_14))
      else
        some ((0 : Int32), σ)
def f_X5_meanFrom_F (rc : Int32 → Int32 → Int32 → Int32 → Int32 → Mem → Option (Int32 × Mem)) (p1 : Int32) (p2 : Int32) (p3 : Int32) (p4 : Int32) (p5 : Int32) (σ : Mem) : Option (Int32 × Mem) :=
  if (gI σ 41 10) = (2 : Int32) then
    (f_X5_meanFrom_13 rc p1 p2 p3 p4 p5 p3 σ)
  else
    f_X5_meanFrom_13 rc p1 p2 p3 p4 p5 (0 : Int32) σ
def f_X5_meanFrom (p1 : Int32) (p2 : Int32) (p3 : Int32) (p4 : Int32) (p5 : Int32) (σ : Mem) : Option (Int32 × Mem) := fx6 f_X5_meanFrom_F 16 p1 p2 p3 p4 p5 σ
set_option maxHeartbeats 4000000 in
set_option maxRecDepth 100000 in
theorem w_X5_meanFrom_13 {p : Program} {l : Launch} {e : Env} {s : State} {m : MethodId} {args : Array Value} {below : List Frame} {meth : Method} {c : Code} {E : EV} {rr : Int32} {τ : Mem} (C : Cx E p s m args meth c cX5_meanFrom 8 (some .int) RX5) {rc : Int32 → Int32 → Int32 → Int32 → Int32 → Mem → Option (Int32 × Mem)} {fr lo : Nat} (hF : 200 ≤ fr) (hL : 8000 ≤ lo) (hrc : ∀ (p1 : Int32) (p2 : Int32) (p3 : Int32) (p4 : Int32) (p5 : Int32) (σ : Mem) (rr : Int32) (τ : Mem), rc p1 p2 p3 p4 p5 σ = some (rr, τ) → MI TC l E yX5_meanFrom cX5_meanFrom 8 (some .int) fr lo [.ref (E.2.1 (41)), .int p1, .int p2, .int p3, .int p4, .int p5] σ rr τ) : ∀ (x1 : Int32) (x2 : Int32) (x3 : Int32) (x4 : Int32) (x5 : Int32) (s0 : Int32) (σ : Mem) (H : Heap) (locs : List Loc) (ls : Array Slot) (hw : Wd TC E σ s H locs) (hl : lv_has ls 8 [(0, .ref (E.2.1 (41))), (1, .int x1), (2, .int x2), (3, .int x3), (4, .int x4), (5, .int x5)]) (h : f_X5_meanFrom_13 rc x1 x2 x3 x4 x5 s0 σ = some (rr, τ)), W p l e { frames := fr + 2, cells := 0, slots := 0, locals := lo + 57 } s m args below meth c H locs 0 0 (MQ below (QI TC E rr τ) args s 0 0 E.2.2.1) (F0 m 13 ls [.int s0]) := by
  obtain ⟨hx, hb, hml, hown, hts, hK, hSt, hlk, hr⟩ := id C
  intro x1 x2 x3 x4 x5 s0 σ H locs ls hw hl h
  unfold f_X5_meanFrom_13 at h
  refine lv_istore (lv' := [(6, .int s0), (0, .ref (E.2.1 (41))), (1, .int x1), (2, .int x2), (3, .int x3), (4, .int x4), (5, .int x5)]) hx hb dX5_meanFrom_13 hl (by decide) rfl (fun ls hl => ?_)
  refine lv_iload_n hx hb dX5_meanFrom_15 rfl (lv_at hl 2 rfl) ?_
  refine lv_bipush (v := 6) hx hb dX5_meanFrom_16 (by decide) ?_
  refine lv_imul hx hb dX5_meanFrom_18 ?_
  refine lv_iload hx hb dX5_meanFrom_19 (lv_at hl 0 rfl) ?_
  refine lv_iadd hx hb dX5_meanFrom_21 ?_
  refine lv_bipush (v := 6) hx hb dX5_meanFrom_22 (by decide) ?_
  refine lv_imul hx hb dX5_meanFrom_24 ?_
  refine lv_iload_n hx hb dX5_meanFrom_25 rfl (lv_at hl 3 rfl) ?_
  refine lv_iadd hx hb dX5_meanFrom_26 ?_
  refine lv_bipush (v := 100) hx hb dX5_meanFrom_27 (by decide) ?_
  refine lv_imul hx hb dX5_meanFrom_29 ?_
  refine lv_iload hx hb dX5_meanFrom_30 (lv_at hl 5 rfl) ?_
  refine lv_bipush (v := 10) hx hb dX5_meanFrom_32 (by decide) ?_
  refine lv_imul hx hb dX5_meanFrom_34 ?_
  refine lv_iadd hx hb dX5_meanFrom_35 ?_
  refine lv_iload hx hb dX5_meanFrom_36 (lv_at hl 6 rfl) ?_
  refine lv_iadd hx hb dX5_meanFrom_38 ?_
  obtain ⟨x7_2, ex7_2, h⟩ := lt_at h
  refine q_top ex7_2 ?_
  refine lv_istore (lv' := [(7, .int x7_2), (6, .int s0), (0, .ref (E.2.1 (41))), (1, .int x1), (2, .int x2), (3, .int x3), (4, .int x4), (5, .int x5)]) hx hb dX5_meanFrom_39 hl (by decide) rfl (fun ls hl => ?_)
  refine lv_iload_n hx hb dX5_meanFrom_41 rfl (lv_at hl 3 rfl) ?_
  refine lv_aload_n hx hb dX5_meanFrom_42 rfl (lv_at hl 2 rfl) ?_
  refine gf_5_12 C hw tC_41 kw_304 dX5_meanFrom_43 ?_
  refine lv_icmp_ge (tgt := 64) hx hb dX5_meanFrom_46 (by decide) (fun c_3 => ?_) (fun c_3 => ?_)
  · replace h := it_at h c_3
    refine lv_iconst (v := 0) hx hb dX5_meanFrom_64 (by decide) ?_
    obtain ⟨rfl, rfl⟩ := ret_at h
    exact q_iret C hw dX5_meanFrom_65
  · replace h := ie_at h c_3
    refine lv_iload hx hb dX5_meanFrom_49 (lv_at hl 0 rfl) ?_
    refine lv_if_lt (tgt := 64) hx hb dX5_meanFrom_51 (by decide) (fun c_4 => ?_) (fun c_4 => ?_)
    · replace h := it_at h c_4
      refine lv_iconst (v := 0) hx hb dX5_meanFrom_64 (by decide) ?_
      obtain ⟨rfl, rfl⟩ := ret_at h
      exact q_iret C hw dX5_meanFrom_65
    · replace h := ie_at h c_4
      refine lv_iload hx hb dX5_meanFrom_54 (lv_at hl 0 rfl) ?_
      refine lv_aload_n hx hb dX5_meanFrom_56 rfl (lv_at hl 2 rfl) ?_
      refine gf_5_2 C hw tC_41 kw_294 (c1 := 44) rfl dX5_meanFrom_57 ?_
      refine q_alen C hw tC_44 (v := 21600) rfl dX5_meanFrom_60 ?_
      refine lv_icmp_lt (tgt := 66) hx hb dX5_meanFrom_61 (by decide) (fun c_5 => ?_) (fun c_5 => ?_)
      · replace h := it_at h c_5
        refine lv_aload_n hx hb dX5_meanFrom_66 rfl (lv_at hl 2 rfl) ?_
        refine gf_5_3 C hw tC_41 kw_295 (c1 := 45) rfl dX5_meanFrom_67 ?_
        refine lv_iload hx hb dX5_meanFrom_70 (lv_at hl 0 rfl) ?_
        obtain ⟨g_6, h⟩ := gd_at h
        refine q_iald C hw tC_45 g_6 dX5_meanFrom_72 ?_
        refine lv_aload_n hx hb dX5_meanFrom_73 rfl (lv_at hl 2 rfl) ?_
        refine gf_5_5 C hw tC_41 kw_297 dX5_meanFrom_74 ?_
        refine lv_icmp_eq (tgt := 109) hx hb dX5_meanFrom_77 (by decide) (fun c_7 => ?_) (fun c_7 => ?_)
        · replace h := it_at h c_7
          refine lv_aload_n hx hb dX5_meanFrom_109 rfl (lv_at hl 2 rfl) ?_
          refine gf_5_2 C hw tC_41 kw_294 (c1 := 44) rfl dX5_meanFrom_110 ?_
          refine lv_iload hx hb dX5_meanFrom_113 (lv_at hl 0 rfl) ?_
          obtain ⟨g_8, h⟩ := gd_at h
          refine q_iald C hw tC_44 g_8 dX5_meanFrom_115 ?_
          obtain ⟨rfl, rfl⟩ := ret_at h
          exact q_iret C hw dX5_meanFrom_116
        · replace h := ie_at h c_7
          refine lv_aload_n hx hb dX5_meanFrom_80 rfl (lv_at hl 2 rfl) ?_
          refine gf_5_2 C hw tC_41 kw_294 (c1 := 44) rfl dX5_meanFrom_81 ?_
          refine lv_iload hx hb dX5_meanFrom_84 (lv_at hl 0 rfl) ?_
          refine lv_aload_n hx hb dX5_meanFrom_86 rfl (lv_at hl 2 rfl) ?_
          refine lv_iload_n hx hb dX5_meanFrom_87 rfl (lv_at hl 3 rfl) ?_
          refine lv_iload_n hx hb dX5_meanFrom_88 rfl (lv_at hl 4 rfl) ?_
          refine lv_iload_n hx hb dX5_meanFrom_89 rfl (lv_at hl 5 rfl) ?_
          refine lv_iload hx hb dX5_meanFrom_90 (lv_at hl 6 rfl) ?_
          refine lv_iload hx hb dX5_meanFrom_92 (lv_at hl 7 rfl) ?_
          obtain ⟨r_9, σ_10, h_11, h⟩ := bd_at h
          refine q_afterI hw (q_runV C hw hl.1 (As := [.int x1, .int x2, .int x3, .int x4, .int x5]) (rest := [.int x7_2, .ref (E.2.1 (44))]) (m_X5_meanOf l E rc hF hL hrc x1 x2 x3 x4 x5 σ r_9 σ_10 h_11) yq_X5_meanOf tC_41 rfl rfl kw_803 ⟨by dsimp only; omega, by dsimp only; omega⟩ rfl (Nat.le_of_ble_eq_true rfl) ⟨Nat.zero_le _, Nat.zero_le _⟩ dX5_meanFrom_94) (fun H locs hw => ?_)
          obtain ⟨g_13, h⟩ := gd_at h
          obtain ⟨σ_12, eσ_12, h⟩ := lt_at h
          refine q_iast C hw tC_44 g_13 eσ_12 dX5_meanFrom_97 (fun H locs hw => ?_)
          refine lv_aload_n hx hb dX5_meanFrom_98 rfl (lv_at hl 2 rfl) ?_
          refine gf_5_3 C hw tC_41 kw_295 (c1 := 45) rfl dX5_meanFrom_99 ?_
          refine lv_iload hx hb dX5_meanFrom_102 (lv_at hl 0 rfl) ?_
          refine lv_aload_n hx hb dX5_meanFrom_104 rfl (lv_at hl 2 rfl) ?_
          refine gf_5_5 C hw tC_41 kw_297 dX5_meanFrom_105 ?_
          obtain ⟨g_15, h⟩ := gd_at h
          obtain ⟨σ_14, eσ_14, h⟩ := lt_at h
          refine q_iast C hw tC_45 g_15 eσ_14 dX5_meanFrom_108 (fun H locs hw => ?_)
          refine lv_aload_n hx hb dX5_meanFrom_109 rfl (lv_at hl 2 rfl) ?_
          refine gf_5_2 C hw tC_41 kw_294 (c1 := 44) rfl dX5_meanFrom_110 ?_
          refine lv_iload hx hb dX5_meanFrom_113 (lv_at hl 0 rfl) ?_
          obtain ⟨g_16, h⟩ := gd_at h
          refine q_iald C hw tC_44 g_16 dX5_meanFrom_115 ?_
          obtain ⟨rfl, rfl⟩ := ret_at h
          exact q_iret C hw dX5_meanFrom_116
      · replace h := ie_at h c_5
        refine lv_iconst (v := 0) hx hb dX5_meanFrom_64 (by decide) ?_
        obtain ⟨rfl, rfl⟩ := ret_at h
        exact q_iret C hw dX5_meanFrom_65
set_option maxHeartbeats 4000000 in
set_option maxRecDepth 100000 in
theorem m_X5_meanFrom_F (l : Launch) (E : EV) (rc : Int32 → Int32 → Int32 → Int32 → Int32 → Mem → Option (Int32 × Mem)) {fr lo : Nat} (hF : 200 ≤ fr) (hL : 8000 ≤ lo) (hrc : ∀ (p1 : Int32) (p2 : Int32) (p3 : Int32) (p4 : Int32) (p5 : Int32) (σ : Mem) (rr : Int32) (τ : Mem), rc p1 p2 p3 p4 p5 σ = some (rr, τ) → MI TC l E yX5_meanFrom cX5_meanFrom 8 (some .int) fr lo [.ref (E.2.1 (41)), .int p1, .int p2, .int p3, .int p4, .int p5] σ rr τ) (p1 : Int32) (p2 : Int32) (p3 : Int32) (p4 : Int32) (p5 : Int32) (σ : Mem) (rr : Int32) (τ : Mem) (h : f_X5_meanFrom_F rc p1 p2 p3 p4 p5 σ = some (rr, τ)) : MI TC l E yX5_meanFrom cX5_meanFrom 8 (some .int) (fr + 2) (lo + 57) [.ref (E.2.1 (41)), .int p1, .int p2, .int p3, .int p4, .int p5] σ rr τ := by
  refine mt_start RX5 (by decide +kernel) rfl (Nat.le_of_ble_eq_true rfl) (fun p e s m args below meth c ls C hw hl => ?_)
  replace hl : lv_has ls 8 [(0, .ref (E.2.1 (41))), (1, .int p1), (2, .int p2), (3, .int p3), (4, .int p4), (5, .int p5)] := hl
  obtain ⟨hx, hb, hml, hown, hts, hK, hSt, hlk, hr⟩ := id C
  unfold f_X5_meanFrom_F at h
  refine lv_aload_n hx hb dX5_meanFrom_0 rfl (lv_at hl 0 rfl) ?_
  refine gf_5_10 C hw tC_41 kw_302 dX5_meanFrom_1 ?_
  refine lv_iconst (v := 2) hx hb dX5_meanFrom_4 (by decide) ?_
  refine lv_icmp_ne (tgt := 12) hx hb dX5_meanFrom_5 (by decide) (fun c_1 => ?_) (fun c_1 => ?_)
  · replace h := ie_at h c_1
    refine lv_iconst (v := 0) hx hb dX5_meanFrom_12 (by decide) ?_
    exact w_X5_meanFrom_13 C hF hL hrc _ _ _ _ _ _ _ _ _ _ hw (lv_sub hl [0, 1, 2, 3, 4, 5] rfl) h
  · replace h := it_at h c_1
    refine lv_iload_n hx hb dX5_meanFrom_8 rfl (lv_at hl 3 rfl) ?_
    refine lv_goto (tgt := 13) hx hb dX5_meanFrom_9 (by decide) ?_
    exact w_X5_meanFrom_13 C hF hL hrc _ _ _ _ _ _ _ _ _ _ hw (lv_sub hl [0, 1, 2, 3, 4, 5] rfl) h
theorem md_X5_meanFrom (l : Launch) (E : EV) : ∀ (d : Nat) (p1 : Int32) (p2 : Int32) (p3 : Int32) (p4 : Int32) (p5 : Int32) (σ : Mem) (rr : Int32) (τ : Mem), fx6 f_X5_meanFrom_F d p1 p2 p3 p4 p5 σ = some (rr, τ) → MI TC l E yX5_meanFrom cX5_meanFrom 8 (some .int) (200 + 2 * d) (8000 + 57 * d) [.ref (E.2.1 (41)), .int p1, .int p2, .int p3, .int p4, .int p5] σ rr τ := by
  intro d
  induction d with
  | zero =>
    intro p1 p2 p3 p4 p5 σ rr τ h
    have h : none = some (rr, τ) := h
    cases h
  | succ n ih =>
    intro p1 p2 p3 p4 p5 σ rr τ h
    have e1 : 200 + 2 * (n + 1) = (200 + 2 * n) + 2 := by omega
    have e2 : 8000 + 57 * (n + 1) = (8000 + 57 * n) + 57 := by omega
    rw [e1, e2]
    exact m_X5_meanFrom_F l E (rc := fx6 f_X5_meanFrom_F n) (fr := 200 + 2 * n) (lo := 8000 + 57 * n) (by omega) (by omega) ih p1 p2 p3 p4 p5 σ rr τ h
theorem m_X5_meanFrom (l : Launch) (E : EV) (p1 : Int32) (p2 : Int32) (p3 : Int32) (p4 : Int32) (p5 : Int32) (σ : Mem) (rr : Int32) (τ : Mem) (h : f_X5_meanFrom p1 p2 p3 p4 p5 σ = some (rr, τ)) : MI TC l E yX5_meanFrom cX5_meanFrom 8 (some .int) 232 8912 [.ref (E.2.1 (41)), .int p1, .int p2, .int p3, .int p4, .int p5] σ rr τ := md_X5_meanFrom l E 16 p1 p2 p3 p4 p5 σ rr τ h
def f_X5_meanOfx (p1 : Int32) (p2 : Int32) (p3 : Int32) (p4 : Int32) (p5 : Int32) (σ : Mem) : Option (Int32 × Mem) := f_X5_meanOf f_X5_meanFrom p1 p2 p3 p4 p5 σ
theorem m_X5_meanOfx (l : Launch) (E : EV) (p1 : Int32) (p2 : Int32) (p3 : Int32) (p4 : Int32) (p5 : Int32) (σ : Mem) (rr : Int32) (τ : Mem) (h : f_X5_meanOfx p1 p2 p3 p4 p5 σ = some (rr, τ)) : MI TC l E yX5_meanOf cX5_meanOf 11 (some .int) 233 8939 [.ref (E.2.1 (41)), .int p1, .int p2, .int p3, .int p4, .int p5] σ rr τ := m_X5_meanOf l E (rc := f_X5_meanFrom) (fr := 232) (lo := 8912) (by decide) (by decide) (m_X5_meanFrom l E) p1 p2 p3 p4 p5 σ rr τ h
def f_X5_awayFor (p1 : Int32) (p2 : Int32) (p3 : Int32) (p4 : Int32) (σ : Mem) : Option (Int32 × Mem) :=
  bv (f_X5_startMean p1 (-1 : Int32) (1 : Int32) σ) fun σ_2 =>
  bd (f_X5_meanFrom (0 : Int32) p2 p2 p3 p4 σ_2) fun r_4 σ_5 =>
  some (r_4, σ_5)
set_option maxHeartbeats 4000000 in
set_option maxRecDepth 100000 in
theorem m_X5_awayFor (l : Launch) (E : EV) (p1 : Int32) (p2 : Int32) (p3 : Int32) (p4 : Int32) (σ : Mem) (rr : Int32) (τ : Mem) (h : f_X5_awayFor p1 p2 p3 p4 σ = some (rr, τ)) : MI TC l E yX5_awayFor cX5_awayFor 5 (some .int) 233 8939 [.ref (E.2.1 (41)), .int p1, .int p2, .int p3, .int p4] σ rr τ := by
  refine mt_start RX5 (by decide +kernel) rfl (Nat.le_of_ble_eq_true rfl) (fun p e s m args below meth c ls C hw hl => ?_)
  replace hl : lv_has ls 5 [(0, .ref (E.2.1 (41))), (1, .int p1), (2, .int p2), (3, .int p3), (4, .int p4)] := hl
  obtain ⟨hx, hb, hml, hown, hts, hK, hSt, hlk, hr⟩ := id C
  unfold f_X5_awayFor at h
  refine lv_aload_n hx hb dX5_awayFor_0 rfl (lv_at hl 0 rfl) ?_
  refine lv_iload_n hx hb dX5_awayFor_1 rfl (lv_at hl 1 rfl) ?_
  refine lv_iconst (v := (-1)) hx hb dX5_awayFor_2 (by decide) ?_
  refine lv_iconst (v := 1) hx hb dX5_awayFor_3 (by decide) ?_
  obtain ⟨σ_2, h_3, h⟩ := bv_at h
  refine q_afterV hw (q_runV C hw hl.1 (As := [.int p1, .int (-1 : Int32), .int (1 : Int32)]) (rest := []) (m_X5_startMean l E p1 (-1 : Int32) (1 : Int32) σ σ_2 h_3) yq_X5_startMean tC_41 rfl rfl kw_795 ⟨Nat.le_of_ble_eq_true rfl, Nat.le_of_ble_eq_true rfl⟩ rfl (Nat.le_of_ble_eq_true rfl) ⟨Nat.zero_le _, Nat.zero_le _⟩ dX5_awayFor_4) (fun H locs hw => ?_)
  refine lv_aload_n hx hb dX5_awayFor_7 rfl (lv_at hl 0 rfl) ?_
  refine lv_iconst (v := 0) hx hb dX5_awayFor_8 (by decide) ?_
  refine lv_iload_n hx hb dX5_awayFor_9 rfl (lv_at hl 2 rfl) ?_
  refine lv_iload_n hx hb dX5_awayFor_10 rfl (lv_at hl 2 rfl) ?_
  refine lv_iload_n hx hb dX5_awayFor_11 rfl (lv_at hl 3 rfl) ?_
  refine lv_iload hx hb dX5_awayFor_12 (lv_at hl 4 rfl) ?_
  obtain ⟨r_4, σ_5, h_6, h⟩ := bd_at h
  refine q_afterI hw (q_runV C hw hl.1 (As := [.int (0 : Int32), .int p2, .int p2, .int p3, .int p4]) (rest := []) (m_X5_meanFrom l E (0 : Int32) p2 p2 p3 p4 σ_2 r_4 σ_5 h_6) yq_X5_meanFrom tC_41 rfl rfl kw_799 ⟨Nat.le_of_ble_eq_true rfl, Nat.le_of_ble_eq_true rfl⟩ rfl (Nat.le_of_ble_eq_true rfl) ⟨Nat.zero_le _, Nat.zero_le _⟩ dX5_awayFor_14) (fun H locs hw => ?_)
  obtain ⟨rfl, rfl⟩ := ret_at h
  exact q_iret C hw dX5_awayFor_17
def f_X5_begin (o : Nat) (σ : Mem) : Option Mem :=
  lt (sI σ 41 6 (nI o)) fun σ_1 =>
  lt (sI σ_1 41 7 (nI (5))) fun σ_2 =>
  some σ_2
set_option maxHeartbeats 4000000 in
set_option maxRecDepth 100000 in
theorem m_X5_begin (l : Launch) (E : EV) (o : Nat) (ho : MO o) (σ : Mem) (τ : Mem) (h : f_X5_begin o σ = some τ) : MV TC l E yX5_begin cX5_begin 3 none 0 0 [.ref (E.2.1 (41)), .ref (E.2.1 o), .ref (E.2.1 (5))] σ τ := by
  refine mt_start RX5 (by decide +kernel) rfl (Nat.le_of_ble_eq_true rfl) (fun p e s m args below meth c ls C hw hl => ?_)
  replace hl : lv_has ls 3 [(0, .ref (E.2.1 (41))), (1, .ref (E.2.1 o)), (2, .ref (E.2.1 (5)))] := hl
  obtain ⟨hx, hb, hml, hown, hts, hK, hSt, hlk, hr⟩ := id C
  unfold f_X5_begin at h
  refine lv_aload_n hx hb dX5_begin_0 rfl (lv_at hl 0 rfl) ?_
  refine lv_aload_n hx hb dX5_begin_1 rfl (lv_at hl 1 rfl) ?_
  obtain ⟨σ_1, eσ_1, h⟩ := lt_at h
  refine pf_5_6 C hw tC_41 kw_298 (c1 := o) (MO.pos ho) eσ_1 dX5_begin_2 (fun H locs hw => ?_)
  refine lv_aload_n hx hb dX5_begin_5 rfl (lv_at hl 0 rfl) ?_
  refine lv_aload_n hx hb dX5_begin_6 rfl (lv_at hl 2 rfl) ?_
  obtain ⟨σ_2, eσ_2, h⟩ := lt_at h
  refine pf_5_7 C hw tC_41 kw_299 (c1 := 5) (by decide) eσ_2 dX5_begin_7 (fun H locs hw => ?_)
  cases h
  exact q_vret C hw dX5_begin_10
def f_X5_bestSetting (p1 : Int32) (p2 : Int32) (p3 : Int32) (p4 : Int32) (σ : Mem) : Option (Int32 × Mem) :=
  bd (f_X5_bestFrom p1 p2 p3 p4 σ) fun r_1 σ_2 =>
  some (irm r_1 (8 : Int32), σ_2)
set_option maxHeartbeats 4000000 in
set_option maxRecDepth 100000 in
theorem m_X5_bestSetting (l : Launch) (E : EV) (p1 : Int32) (p2 : Int32) (p3 : Int32) (p4 : Int32) (σ : Mem) (rr : Int32) (τ : Mem) (h : f_X5_bestSetting p1 p2 p3 p4 σ = some (rr, τ)) : MI TC l E yX5_bestSetting cX5_bestSetting 5 (some .int) 89 2585 [.ref (E.2.1 (41)), .int p1, .int p2, .int p3, .int p4] σ rr τ := by
  refine mt_start RX5 (by decide +kernel) rfl (Nat.le_of_ble_eq_true rfl) (fun p e s m args below meth c ls C hw hl => ?_)
  replace hl : lv_has ls 5 [(0, .ref (E.2.1 (41))), (1, .int p1), (2, .int p2), (3, .int p3), (4, .int p4)] := hl
  obtain ⟨hx, hb, hml, hown, hts, hK, hSt, hlk, hr⟩ := id C
  unfold f_X5_bestSetting at h
  refine lv_aload_n hx hb dX5_bestSetting_0 rfl (lv_at hl 0 rfl) ?_
  refine lv_iload_n hx hb dX5_bestSetting_1 rfl (lv_at hl 1 rfl) ?_
  refine lv_iload_n hx hb dX5_bestSetting_2 rfl (lv_at hl 2 rfl) ?_
  refine lv_iload_n hx hb dX5_bestSetting_3 rfl (lv_at hl 3 rfl) ?_
  refine lv_iload hx hb dX5_bestSetting_4 (lv_at hl 4 rfl) ?_
  obtain ⟨r_1, σ_2, h_3, h⟩ := bd_at h
  refine q_afterI hw (q_runV C hw hl.1 (As := [.int p1, .int p2, .int p3, .int p4]) (rest := []) (m_X5_bestFrom l E p1 p2 p3 p4 σ r_1 σ_2 h_3) yq_X5_bestFrom tC_41 rfl rfl kw_762 ⟨Nat.le_of_ble_eq_true rfl, Nat.le_of_ble_eq_true rfl⟩ rfl (Nat.le_of_ble_eq_true rfl) ⟨Nat.zero_le _, Nat.zero_le _⟩ dX5_bestSetting_6) (fun H locs hw => ?_)
  refine lv_bipush (v := 8) hx hb dX5_bestSetting_9 (by decide) ?_
  refine q_irem hx hb dX5_bestSetting_11 (by decide) ?_
  obtain ⟨rfl, rfl⟩ := ret_at h
  exact q_iret C hw dX5_bestSetting_12
def f_X5_bestWorth (p1 : Int32) (p2 : Int32) (p3 : Int32) (p4 : Int32) (σ : Mem) : Option (Int32 × Mem) :=
  bd (f_X5_bestFrom p1 p2 p3 p4 σ) fun r_1 σ_2 =>
  some (r_1 / (8 : Int32), σ_2)
set_option maxHeartbeats 4000000 in
set_option maxRecDepth 100000 in
theorem m_X5_bestWorth (l : Launch) (E : EV) (p1 : Int32) (p2 : Int32) (p3 : Int32) (p4 : Int32) (σ : Mem) (rr : Int32) (τ : Mem) (h : f_X5_bestWorth p1 p2 p3 p4 σ = some (rr, τ)) : MI TC l E yX5_bestWorth cX5_bestWorth 5 (some .int) 89 2585 [.ref (E.2.1 (41)), .int p1, .int p2, .int p3, .int p4] σ rr τ := by
  refine mt_start RX5 (by decide +kernel) rfl (Nat.le_of_ble_eq_true rfl) (fun p e s m args below meth c ls C hw hl => ?_)
  replace hl : lv_has ls 5 [(0, .ref (E.2.1 (41))), (1, .int p1), (2, .int p2), (3, .int p3), (4, .int p4)] := hl
  obtain ⟨hx, hb, hml, hown, hts, hK, hSt, hlk, hr⟩ := id C
  unfold f_X5_bestWorth at h
  refine lv_aload_n hx hb dX5_bestWorth_0 rfl (lv_at hl 0 rfl) ?_
  refine lv_iload_n hx hb dX5_bestWorth_1 rfl (lv_at hl 1 rfl) ?_
  refine lv_iload_n hx hb dX5_bestWorth_2 rfl (lv_at hl 2 rfl) ?_
  refine lv_iload_n hx hb dX5_bestWorth_3 rfl (lv_at hl 3 rfl) ?_
  refine lv_iload hx hb dX5_bestWorth_4 (lv_at hl 4 rfl) ?_
  obtain ⟨r_1, σ_2, h_3, h⟩ := bd_at h
  refine q_afterI hw (q_runV C hw hl.1 (As := [.int p1, .int p2, .int p3, .int p4]) (rest := []) (m_X5_bestFrom l E p1 p2 p3 p4 σ r_1 σ_2 h_3) yq_X5_bestFrom tC_41 rfl rfl kw_762 ⟨Nat.le_of_ble_eq_true rfl, Nat.le_of_ble_eq_true rfl⟩ rfl (Nat.le_of_ble_eq_true rfl) ⟨Nat.zero_le _, Nat.zero_le _⟩ dX5_bestWorth_6) (fun H locs hw => ?_)
  refine lv_bipush (v := 8) hx hb dX5_bestWorth_9 (by decide) ?_
  refine lv_idiv hx hb dX5_bestWorth_11 (by decide) ?_
  obtain ⟨rfl, rfl⟩ := ret_at h
  exact q_iret C hw dX5_bestWorth_12
def f_X5_followKind (p1 : Int32) (p2 : Int32) (σ : Mem) : Option Mem :=
  lt (sI σ 41 10 p1) fun σ_1 =>
  lt (sI σ_1 41 11 p2) fun σ_2 =>
  some σ_2
set_option maxHeartbeats 4000000 in
set_option maxRecDepth 100000 in
theorem m_X5_followKind (l : Launch) (E : EV) (p1 : Int32) (p2 : Int32) (σ : Mem) (τ : Mem) (h : f_X5_followKind p1 p2 σ = some τ) : MV TC l E yX5_followKind cX5_followKind 3 none 0 0 [.ref (E.2.1 (41)), .int p1, .int p2] σ τ := by
  refine mt_start RX5 (by decide +kernel) rfl (Nat.le_of_ble_eq_true rfl) (fun p e s m args below meth c ls C hw hl => ?_)
  replace hl : lv_has ls 3 [(0, .ref (E.2.1 (41))), (1, .int p1), (2, .int p2)] := hl
  obtain ⟨hx, hb, hml, hown, hts, hK, hSt, hlk, hr⟩ := id C
  unfold f_X5_followKind at h
  refine lv_aload_n hx hb dX5_followKind_0 rfl (lv_at hl 0 rfl) ?_
  refine lv_iload_n hx hb dX5_followKind_1 rfl (lv_at hl 1 rfl) ?_
  obtain ⟨σ_1, eσ_1, h⟩ := lt_at h
  refine pf_5_10 C hw tC_41 kw_302 eσ_1 dX5_followKind_2 (fun H locs hw => ?_)
  refine lv_aload_n hx hb dX5_followKind_5 rfl (lv_at hl 0 rfl) ?_
  refine lv_iload_n hx hb dX5_followKind_6 rfl (lv_at hl 2 rfl) ?_
  obtain ⟨σ_2, eσ_2, h⟩ := lt_at h
  refine pf_5_11 C hw tC_41 kw_303 eσ_2 dX5_followKind_7 (fun H locs hw => ?_)
  cases h
  exact q_vret C hw dX5_followKind_10
def f_X5_dressing_73 (k32 : Int32 → Int32 → Int32 → Int32 → Int32 → Int32 → Int32 → Mem → Option (Int32 × Mem)) (x1 : Int32) (x2 : Int32) (x3 : Int32) (x4 : Int32) (x5 : Int32) (x6 : Int32) (x7 : Int32) (σ : Mem) : Option (Int32 × Mem) :=
  lt (x7 + (1 : Int32)) fun x7_18 =>
  k32 x1 x2 x3 x4 x5 x6 x7_18 σ
def f_X5_dressing_32 (k32 : Int32 → Int32 → Int32 → Int32 → Int32 → Int32 → Int32 → Mem → Option (Int32 × Mem)) (x1 : Int32) (x2 : Int32) (x3 : Int32) (x4 : Int32) (x5 : Int32) (x6 : Int32) (x7 : Int32) (σ : Mem) : Option (Int32 × Mem) :=
  if x1 ≤ x7 then
    (some (x6, σ))
  else
    bv (f_X5_startMean x1 x7 (0 : Int32) σ) fun σ_12 =>
    bd (f_X5_meanFrom (0 : Int32) x2 x2 x3 x4 σ_12) fun r_14 σ_15 =>
    if r_14 ≤ x5 then
      (f_X5_dressing_73 k32 x1 x2 x3 x4 x5 x6 x7 σ_15)
    else
      f_X5_dressing_73 k32 x1 x2 x3 x4 r_14 x7 x7 σ_15
def f_X5_dressing (p1 : Int32) (p2 : Int32) (p3 : Int32) (p4 : Int32) (σ : Mem) : Option (Int32 × Mem) :=
  bv (f_X5_followKind (3 : Int32) (0 : Int32) σ) fun σ_2 =>
  bv (f_X5_startMean p1 (-1 : Int32) (0 : Int32) σ_2) fun σ_5 =>
  bd (f_X5_meanFrom (0 : Int32) p2 p2 p3 p4 σ_5) fun r_7 σ_8 =>
  fx8 (f_X5_dressing_32) FU p1 p2 p3 p4 r_7 (-5 : Int32) (0 : Int32) σ_8
set_option maxHeartbeats 4000000 in
set_option maxRecDepth 100000 in
theorem w_X5_dressing_73 {p : Program} {l : Launch} {e : Env} {s : State} {m : MethodId} {args : Array Value} {below : List Frame} {meth : Method} {c : Code} {E : EV} {rr : Int32} {τ : Mem} (C : Cx E p s m args meth c cX5_dressing 9 (some .int) RX5) (k32 : Int32 → Int32 → Int32 → Int32 → Int32 → Int32 → Int32 → Mem → Option (Int32 × Mem)) (hk32 : ∀ (x1 : Int32) (x2 : Int32) (x3 : Int32) (x4 : Int32) (x5 : Int32) (x6 : Int32) (x7 : Int32) (σ : Mem) (H : Heap) (locs : List Loc) (ls : Array Slot) (hw : Wd TC E σ s H locs) (hl : lv_has ls 9 [(0, .ref (E.2.1 (41))), (1, .int x1), (2, .int x2), (3, .int x3), (4, .int x4), (5, .int x5), (6, .int x6), (7, .int x7)]) (h : k32 x1 x2 x3 x4 x5 x6 x7 σ = some (rr, τ)), W p l e { frames := 233, cells := 0, slots := 0, locals := 8939 } s m args below meth c H locs 0 0 (MQ below (QI TC E rr τ) args s 0 0 E.2.2.1) (F0 m 32 ls [])) : ∀ (x1 : Int32) (x2 : Int32) (x3 : Int32) (x4 : Int32) (x5 : Int32) (x6 : Int32) (x7 : Int32) (σ : Mem) (H : Heap) (locs : List Loc) (ls : Array Slot) (hw : Wd TC E σ s H locs) (hl : lv_has ls 9 [(0, .ref (E.2.1 (41))), (1, .int x1), (2, .int x2), (3, .int x3), (4, .int x4), (5, .int x5), (6, .int x6), (7, .int x7)]) (h : f_X5_dressing_73 k32 x1 x2 x3 x4 x5 x6 x7 σ = some (rr, τ)), W p l e { frames := 233, cells := 0, slots := 0, locals := 8939 } s m args below meth c H locs 0 0 (MQ below (QI TC E rr τ) args s 0 0 E.2.2.1) (F0 m 73 ls []) := by
  obtain ⟨hx, hb, hml, hown, hts, hK, hSt, hlk, hr⟩ := id C
  intro x1 x2 x3 x4 x5 x6 x7 σ H locs ls hw hl h
  unfold f_X5_dressing_73 at h
  obtain ⟨x7_18, ex7_18, h⟩ := lt_at h
  refine lv_iinc (v := x7_18) (lv' := [(7, .int x7_18), (0, .ref (E.2.1 (41))), (1, .int x1), (2, .int x2), (3, .int x3), (4, .int x4), (5, .int x5), (6, .int x6)]) hx hb dX5_dressing_73 hl (k := 7) rfl (by rw [ex7_18]; rfl) (by decide) rfl (fun ls hl => ?_)
  refine lv_goto (tgt := 32) hx hb dX5_dressing_76 (by decide) ?_
  exact hk32 _ _ _ _ _ _ _ _ _ _ _ hw (lv_sub hl [1, 2, 3, 4, 5, 6, 7, 0] rfl) h
set_option maxHeartbeats 4000000 in
set_option maxRecDepth 100000 in
theorem w_X5_dressing_32 {p : Program} {l : Launch} {e : Env} {s : State} {m : MethodId} {args : Array Value} {below : List Frame} {meth : Method} {c : Code} {E : EV} {rr : Int32} {τ : Mem} (C : Cx E p s m args meth c cX5_dressing 9 (some .int) RX5) : ∀ (n : Nat) (x1 : Int32) (x2 : Int32) (x3 : Int32) (x4 : Int32) (x5 : Int32) (x6 : Int32) (x7 : Int32) (σ : Mem) (H : Heap) (locs : List Loc) (ls : Array Slot) (hw : Wd TC E σ s H locs) (hl : lv_has ls 9 [(0, .ref (E.2.1 (41))), (1, .int x1), (2, .int x2), (3, .int x3), (4, .int x4), (5, .int x5), (6, .int x6), (7, .int x7)]) (h : fx8 (f_X5_dressing_32) n x1 x2 x3 x4 x5 x6 x7 σ = some (rr, τ)), W p l e { frames := 233, cells := 0, slots := 0, locals := 8939 } s m args below meth c H locs 0 0 (MQ below (QI TC E rr τ) args s 0 0 E.2.2.1) (F0 m 32 ls []) := by
  obtain ⟨hx, hb, hml, hown, hts, hK, hSt, hlk, hr⟩ := id C
  intro n
  induction n with
  | zero =>
    intro x1 x2 x3 x4 x5 x6 x7 σ H locs ls hw hl h
    have h : none = some (rr, τ) := h
    cases h
  | succ n hk32 =>
    intro x1 x2 x3 x4 x5 x6 x7 σ H locs ls hw hl h
    replace h : f_X5_dressing_32 (fx8 (f_X5_dressing_32) n) x1 x2 x3 x4 x5 x6 x7 σ = some (rr, τ) := h
    unfold f_X5_dressing_32 at h
    refine lv_iload hx hb dX5_dressing_32 (lv_at hl 7 rfl) ?_
    refine lv_iload_n hx hb dX5_dressing_34 rfl (lv_at hl 1 rfl) ?_
    refine lv_icmp_ge (tgt := 79) hx hb dX5_dressing_35 (by decide) (fun c_10 => ?_) (fun c_10 => ?_)
    · replace h := it_at h c_10
      refine lv_iload hx hb dX5_dressing_79 (lv_at hl 6 rfl) ?_
      obtain ⟨rfl, rfl⟩ := ret_at h
      exact q_iret C hw dX5_dressing_81
    · replace h := ie_at h c_10
      refine lv_aload_n hx hb dX5_dressing_38 rfl (lv_at hl 0 rfl) ?_
      refine lv_iload_n hx hb dX5_dressing_39 rfl (lv_at hl 1 rfl) ?_
      refine lv_iload hx hb dX5_dressing_40 (lv_at hl 7 rfl) ?_
      refine lv_iconst (v := 0) hx hb dX5_dressing_42 (by decide) ?_
      obtain ⟨σ_12, h_13, h⟩ := bv_at h
      refine q_afterV hw (q_runV C hw hl.1 (As := [.int x1, .int x7, .int (0 : Int32)]) (rest := []) (m_X5_startMean l E x1 x7 (0 : Int32) σ σ_12 h_13) yq_X5_startMean tC_41 rfl rfl kw_795 ⟨Nat.le_of_ble_eq_true rfl, Nat.le_of_ble_eq_true rfl⟩ rfl (Nat.le_of_ble_eq_true rfl) ⟨Nat.zero_le _, Nat.zero_le _⟩ dX5_dressing_43) (fun H locs hw => ?_)
      refine lv_aload_n hx hb dX5_dressing_46 rfl (lv_at hl 0 rfl) ?_
      refine lv_iconst (v := 0) hx hb dX5_dressing_47 (by decide) ?_
      refine lv_iload_n hx hb dX5_dressing_48 rfl (lv_at hl 2 rfl) ?_
      refine lv_iload_n hx hb dX5_dressing_49 rfl (lv_at hl 2 rfl) ?_
      refine lv_iload_n hx hb dX5_dressing_50 rfl (lv_at hl 3 rfl) ?_
      refine lv_iload hx hb dX5_dressing_51 (lv_at hl 4 rfl) ?_
      obtain ⟨r_14, σ_15, h_16, h⟩ := bd_at h
      refine q_afterI hw (q_runV C hw hl.1 (As := [.int (0 : Int32), .int x2, .int x2, .int x3, .int x4]) (rest := []) (m_X5_meanFrom l E (0 : Int32) x2 x2 x3 x4 σ_12 r_14 σ_15 h_16) yq_X5_meanFrom tC_41 rfl rfl kw_799 ⟨Nat.le_of_ble_eq_true rfl, Nat.le_of_ble_eq_true rfl⟩ rfl (Nat.le_of_ble_eq_true rfl) ⟨Nat.zero_le _, Nat.zero_le _⟩ dX5_dressing_53) (fun H locs hw => ?_)
      refine lv_istore (lv' := [(8, .int r_14), (0, .ref (E.2.1 (41))), (1, .int x1), (2, .int x2), (3, .int x3), (4, .int x4), (5, .int x5), (6, .int x6), (7, .int x7)]) hx hb dX5_dressing_56 hl (by decide) rfl (fun ls hl => ?_)
      refine lv_iload hx hb dX5_dressing_58 (lv_at hl 0 rfl) ?_
      refine lv_iload hx hb dX5_dressing_60 (lv_at hl 6 rfl) ?_
      refine lv_icmp_le (tgt := 73) hx hb dX5_dressing_62 (by decide) (fun c_17 => ?_) (fun c_17 => ?_)
      · replace h := it_at h c_17
        exact w_X5_dressing_73 C _ hk32 _ _ _ _ _ _ _ _ _ _ _ hw (lv_sub hl [1, 2, 3, 4, 5, 6, 7, 8] rfl) h
      · replace h := ie_at h c_17
        refine lv_iload hx hb dX5_dressing_65 (lv_at hl 0 rfl) ?_
        refine lv_istore (lv' := [(5, .int r_14), (8, .int r_14), (0, .ref (E.2.1 (41))), (1, .int x1), (2, .int x2), (3, .int x3), (4, .int x4), (6, .int x6), (7, .int x7)]) hx hb dX5_dressing_67 hl (by decide) rfl (fun ls hl => ?_)
        refine lv_iload hx hb dX5_dressing_69 (lv_at hl 8 rfl) ?_
        refine lv_istore (lv' := [(6, .int x7), (5, .int r_14), (8, .int r_14), (0, .ref (E.2.1 (41))), (1, .int x1), (2, .int x2), (3, .int x3), (4, .int x4), (7, .int x7)]) hx hb dX5_dressing_71 hl (by decide) rfl (fun ls hl => ?_)
        exact w_X5_dressing_73 C _ hk32 _ _ _ _ _ _ _ _ _ _ _ hw (lv_sub hl [3, 4, 5, 6, 7, 1, 0, 8] rfl) h
set_option maxHeartbeats 4000000 in
set_option maxRecDepth 100000 in
theorem m_X5_dressing (l : Launch) (E : EV) (p1 : Int32) (p2 : Int32) (p3 : Int32) (p4 : Int32) (σ : Mem) (rr : Int32) (τ : Mem) (h : f_X5_dressing p1 p2 p3 p4 σ = some (rr, τ)) : MI TC l E yX5_dressing cX5_dressing 9 (some .int) 233 8939 [.ref (E.2.1 (41)), .int p1, .int p2, .int p3, .int p4] σ rr τ := by
  refine mt_start RX5 (by decide +kernel) rfl (Nat.le_of_ble_eq_true rfl) (fun p e s m args below meth c ls C hw hl => ?_)
  replace hl : lv_has ls 9 [(0, .ref (E.2.1 (41))), (1, .int p1), (2, .int p2), (3, .int p3), (4, .int p4)] := hl
  obtain ⟨hx, hb, hml, hown, hts, hK, hSt, hlk, hr⟩ := id C
  unfold f_X5_dressing at h
  refine lv_aload_n hx hb dX5_dressing_0 rfl (lv_at hl 0 rfl) ?_
  refine lv_iconst (v := 3) hx hb dX5_dressing_1 (by decide) ?_
  refine lv_iconst (v := 0) hx hb dX5_dressing_2 (by decide) ?_
  obtain ⟨σ_2, h_3, h⟩ := bv_at h
  refine q_afterV hw (q_runV C hw hl.1 (As := [.int (3 : Int32), .int (0 : Int32)]) (rest := []) (m_X5_followKind l E (3 : Int32) (0 : Int32) σ σ_2 h_3) yq_X5_followKind tC_41 rfl rfl kw_829 ⟨Nat.le_of_ble_eq_true rfl, Nat.le_of_ble_eq_true rfl⟩ rfl (Nat.le_of_ble_eq_true rfl) ⟨Nat.zero_le _, Nat.zero_le _⟩ dX5_dressing_3) (fun H locs hw => ?_)
  refine lv_aload_n hx hb dX5_dressing_6 rfl (lv_at hl 0 rfl) ?_
  refine lv_iload_n hx hb dX5_dressing_7 rfl (lv_at hl 1 rfl) ?_
  refine lv_iconst (v := (-1)) hx hb dX5_dressing_8 (by decide) ?_
  refine lv_iconst (v := 0) hx hb dX5_dressing_9 (by decide) ?_
  obtain ⟨σ_5, h_6, h⟩ := bv_at h
  refine q_afterV hw (q_runV C hw hl.1 (As := [.int p1, .int (-1 : Int32), .int (0 : Int32)]) (rest := []) (m_X5_startMean l E p1 (-1 : Int32) (0 : Int32) σ_2 σ_5 h_6) yq_X5_startMean tC_41 rfl rfl kw_795 ⟨Nat.le_of_ble_eq_true rfl, Nat.le_of_ble_eq_true rfl⟩ rfl (Nat.le_of_ble_eq_true rfl) ⟨Nat.zero_le _, Nat.zero_le _⟩ dX5_dressing_10) (fun H locs hw => ?_)
  refine lv_aload_n hx hb dX5_dressing_13 rfl (lv_at hl 0 rfl) ?_
  refine lv_iconst (v := 0) hx hb dX5_dressing_14 (by decide) ?_
  refine lv_iload_n hx hb dX5_dressing_15 rfl (lv_at hl 2 rfl) ?_
  refine lv_iload_n hx hb dX5_dressing_16 rfl (lv_at hl 2 rfl) ?_
  refine lv_iload_n hx hb dX5_dressing_17 rfl (lv_at hl 3 rfl) ?_
  refine lv_iload hx hb dX5_dressing_18 (lv_at hl 4 rfl) ?_
  obtain ⟨r_7, σ_8, h_9, h⟩ := bd_at h
  refine q_afterI hw (q_runV C hw hl.1 (As := [.int (0 : Int32), .int p2, .int p2, .int p3, .int p4]) (rest := []) (m_X5_meanFrom l E (0 : Int32) p2 p2 p3 p4 σ_5 r_7 σ_8 h_9) yq_X5_meanFrom tC_41 rfl rfl kw_799 ⟨Nat.le_of_ble_eq_true rfl, Nat.le_of_ble_eq_true rfl⟩ rfl (Nat.le_of_ble_eq_true rfl) ⟨Nat.zero_le _, Nat.zero_le _⟩ dX5_dressing_20) (fun H locs hw => ?_)
  refine lv_istore (lv' := [(5, .int r_7), (0, .ref (E.2.1 (41))), (1, .int p1), (2, .int p2), (3, .int p3), (4, .int p4)]) hx hb dX5_dressing_23 hl (by decide) rfl (fun ls hl => ?_)
  refine lv_bipush (v := (-5)) hx hb dX5_dressing_25 (by decide) ?_
  refine lv_istore (lv' := [(6, .int (-5 : Int32)), (5, .int r_7), (0, .ref (E.2.1 (41))), (1, .int p1), (2, .int p2), (3, .int p3), (4, .int p4)]) hx hb dX5_dressing_27 hl (by decide) rfl (fun ls hl => ?_)
  refine lv_iconst (v := 0) hx hb dX5_dressing_29 (by decide) ?_
  refine lv_istore (lv' := [(7, .int (0 : Int32)), (6, .int (-5 : Int32)), (5, .int r_7), (0, .ref (E.2.1 (41))), (1, .int p1), (2, .int p2), (3, .int p3), (4, .int p4)]) hx hb dX5_dressing_30 hl (by decide) rfl (fun ls hl => ?_)
  exact w_X5_dressing_32 C _ _ _ _ _ _ _ _ _ _ _ _ hw (lv_sub hl [3, 4, 5, 6, 7, 2, 1, 0] rfl) h
def f_X5_followRule (p2 : Int32) (σ : Mem) : Option Mem :=
  lt (sI σ 41 8 (nI (8))) fun σ_1 =>
  lt (sI σ_1 41 9 p2) fun σ_2 =>
  gd (ib p2 10) <|
  lt (sI σ_2 41 10 (gI σ_2 9 p2.toNatClampNeg)) fun σ_4 =>
  gd (ib p2 10) <|
  lt (sI σ_4 41 11 (gI σ_4 10 p2.toNatClampNeg)) fun σ_6 =>
  some σ_6
set_option maxHeartbeats 4000000 in
set_option maxRecDepth 100000 in
theorem m_X5_followRule (l : Launch) (E : EV) (p2 : Int32) (σ : Mem) (τ : Mem) (h : f_X5_followRule p2 σ = some τ) : MV TC l E yX5_followRule cX5_followRule 3 none 0 0 [.ref (E.2.1 (41)), .ref (E.2.1 (8)), .int p2] σ τ := by
  refine mt_start RX5 (by decide +kernel) rfl (Nat.le_of_ble_eq_true rfl) (fun p e s m args below meth c ls C hw hl => ?_)
  replace hl : lv_has ls 3 [(0, .ref (E.2.1 (41))), (1, .ref (E.2.1 (8))), (2, .int p2)] := hl
  obtain ⟨hx, hb, hml, hown, hts, hK, hSt, hlk, hr⟩ := id C
  unfold f_X5_followRule at h
  refine lv_aload_n hx hb dX5_followRule_0 rfl (lv_at hl 0 rfl) ?_
  refine lv_aload_n hx hb dX5_followRule_1 rfl (lv_at hl 1 rfl) ?_
  obtain ⟨σ_1, eσ_1, h⟩ := lt_at h
  refine pf_5_8 C hw tC_41 kw_300 (c1 := 8) (by decide) eσ_1 dX5_followRule_2 (fun H locs hw => ?_)
  refine lv_aload_n hx hb dX5_followRule_5 rfl (lv_at hl 0 rfl) ?_
  refine lv_iload_n hx hb dX5_followRule_6 rfl (lv_at hl 2 rfl) ?_
  obtain ⟨σ_2, eσ_2, h⟩ := lt_at h
  refine pf_5_9 C hw tC_41 kw_301 eσ_2 dX5_followRule_7 (fun H locs hw => ?_)
  refine lv_aload_n hx hb dX5_followRule_10 rfl (lv_at hl 0 rfl) ?_
  refine lv_aload_n hx hb dX5_followRule_11 rfl (lv_at hl 1 rfl) ?_
  refine gf_7_0 C hw tC_8 kw_179 (c1 := 9) rfl dX5_followRule_12 ?_
  refine lv_iload_n hx hb dX5_followRule_15 rfl (lv_at hl 2 rfl) ?_
  obtain ⟨g_3, h⟩ := gd_at h
  refine q_iald C hw tC_9 g_3 dX5_followRule_16 ?_
  obtain ⟨σ_4, eσ_4, h⟩ := lt_at h
  refine pf_5_10 C hw tC_41 kw_302 eσ_4 dX5_followRule_17 (fun H locs hw => ?_)
  refine lv_aload_n hx hb dX5_followRule_20 rfl (lv_at hl 0 rfl) ?_
  refine lv_aload_n hx hb dX5_followRule_21 rfl (lv_at hl 1 rfl) ?_
  refine gf_7_1 C hw tC_8 kw_183 (c1 := 10) rfl dX5_followRule_22 ?_
  refine lv_iload_n hx hb dX5_followRule_25 rfl (lv_at hl 2 rfl) ?_
  obtain ⟨g_5, h⟩ := gd_at h
  refine q_iald C hw tC_10 g_5 dX5_followRule_26 ?_
  obtain ⟨σ_6, eσ_6, h⟩ := lt_at h
  refine pf_5_11 C hw tC_41 kw_303 eσ_6 dX5_followRule_27 (fun H locs hw => ?_)
  cases h
  exact q_vret C hw dX5_followRule_30
def f_X5_forget (σ : Mem) : Option Mem :=
  lt (sI σ 41 4 ((gI σ 41 4) + (1 : Int32))) fun σ_1 =>
  some σ_1
set_option maxHeartbeats 4000000 in
set_option maxRecDepth 100000 in
theorem m_X5_forget (l : Launch) (E : EV) (σ : Mem) (τ : Mem) (h : f_X5_forget  σ = some τ) : MV TC l E yX5_forget cX5_forget 1 none 0 0 [.ref (E.2.1 (41))] σ τ := by
  refine mt_start RX5 (by decide +kernel) rfl (Nat.le_of_ble_eq_true rfl) (fun p e s m args below meth c ls C hw hl => ?_)
  replace hl : lv_has ls 1 [(0, .ref (E.2.1 (41)))] := hl
  obtain ⟨hx, hb, hml, hown, hts, hK, hSt, hlk, hr⟩ := id C
  unfold f_X5_forget at h
  refine lv_aload_n hx hb dX5_forget_0 rfl (lv_at hl 0 rfl) ?_
  refine lv_dup hx hb dX5_forget_1 rfl ?_
  refine gf_5_4 C hw tC_41 kw_296 dX5_forget_2 ?_
  refine lv_iconst (v := 1) hx hb dX5_forget_5 (by decide) ?_
  refine lv_iadd hx hb dX5_forget_6 ?_
  obtain ⟨σ_1, eσ_1, h⟩ := lt_at h
  refine pf_5_4 C hw tC_41 kw_296 eσ_1 dX5_forget_7 (fun H locs hw => ?_)
  cases h
  exact q_vret C hw dX5_forget_10
def f_X5_looking_6 (k6 : Int32 → Int32 → Int32 → Int32 → Int32 → Int32 → Mem → Option (Int32 × Mem)) (x1 : Int32) (x2 : Int32) (x3 : Int32) (x4 : Int32) (x5 : Int32) (x6 : Int32) (σ : Mem) : Option (Int32 × Mem) :=
  if (8 : Int32) ≤ x6 then
    (bd (f_X5_bestFrom x1 x2 x3 x4 σ) fun r_2 σ_3 =>
    some ((r_2 / (8 : Int32)) - x5, σ_3))
  else
    bv (f_X5_followKind (1 : Int32) x6 σ) fun σ_6 =>
    bv (f_X5_startMean x1 (-1 : Int32) (0 : Int32) σ_6) fun σ_9 =>
    bd (f_X5_meanFrom (0 : Int32) x2 x2 x3 x4 σ_9) fun r_11 σ_12 =>
    lt (imx x5 r_11) fun x5_14 =>
    lt (x6 + (1 : Int32)) fun x6_15 =>
    k6 x1 x2 x3 x4 x5_14 x6_15 σ_12
def f_X5_looking (p1 : Int32) (p2 : Int32) (p3 : Int32) (p4 : Int32) (σ : Mem) : Option (Int32 × Mem) :=
  fx7 (f_X5_looking_6) FU p1 p2 p3 p4 (0 : Int32) (0 : Int32) σ
set_option maxHeartbeats 4000000 in
set_option maxRecDepth 100000 in
theorem w_X5_looking_6 {p : Program} {l : Launch} {e : Env} {s : State} {m : MethodId} {args : Array Value} {below : List Frame} {meth : Method} {c : Code} {E : EV} {rr : Int32} {τ : Mem} (C : Cx E p s m args meth c cX5_looking 7 (some .int) RX5) : ∀ (n : Nat) (x1 : Int32) (x2 : Int32) (x3 : Int32) (x4 : Int32) (x5 : Int32) (x6 : Int32) (σ : Mem) (H : Heap) (locs : List Loc) (ls : Array Slot) (hw : Wd TC E σ s H locs) (hl : lv_has ls 7 [(0, .ref (E.2.1 (41))), (1, .int x1), (2, .int x2), (3, .int x3), (4, .int x4), (5, .int x5), (6, .int x6)]) (h : fx7 (f_X5_looking_6) n x1 x2 x3 x4 x5 x6 σ = some (rr, τ)), W p l e { frames := 233, cells := 0, slots := 0, locals := 8939 } s m args below meth c H locs 0 0 (MQ below (QI TC E rr τ) args s 0 0 E.2.2.1) (F0 m 6 ls []) := by
  obtain ⟨hx, hb, hml, hown, hts, hK, hSt, hlk, hr⟩ := id C
  intro n
  induction n with
  | zero =>
    intro x1 x2 x3 x4 x5 x6 σ H locs ls hw hl h
    have h : none = some (rr, τ) := h
    cases h
  | succ n hk6 =>
    intro x1 x2 x3 x4 x5 x6 σ H locs ls hw hl h
    replace h : f_X5_looking_6 (fx7 (f_X5_looking_6) n) x1 x2 x3 x4 x5 x6 σ = some (rr, τ) := h
    unfold f_X5_looking_6 at h
    refine lv_iload hx hb dX5_looking_6 (lv_at hl 6 rfl) ?_
    refine lv_bipush (v := 8) hx hb dX5_looking_8 (by decide) ?_
    refine lv_icmp_ge (tgt := 50) hx hb dX5_looking_10 (by decide) (fun c_1 => ?_) (fun c_1 => ?_)
    · replace h := it_at h c_1
      refine lv_aload_n hx hb dX5_looking_50 rfl (lv_at hl 0 rfl) ?_
      refine lv_iload_n hx hb dX5_looking_51 rfl (lv_at hl 1 rfl) ?_
      refine lv_iload_n hx hb dX5_looking_52 rfl (lv_at hl 2 rfl) ?_
      refine lv_iload_n hx hb dX5_looking_53 rfl (lv_at hl 3 rfl) ?_
      refine lv_iload hx hb dX5_looking_54 (lv_at hl 4 rfl) ?_
      obtain ⟨r_2, σ_3, h_4, h⟩ := bd_at h
      refine q_afterI hw (q_runV C hw hl.1 (As := [.int x1, .int x2, .int x3, .int x4]) (rest := []) (m_X5_bestFrom l E x1 x2 x3 x4 σ r_2 σ_3 h_4) yq_X5_bestFrom tC_41 rfl rfl kw_762 ⟨Nat.le_of_ble_eq_true rfl, Nat.le_of_ble_eq_true rfl⟩ rfl (Nat.le_of_ble_eq_true rfl) ⟨Nat.zero_le _, Nat.zero_le _⟩ dX5_looking_56) (fun H locs hw => ?_)
      refine lv_bipush (v := 8) hx hb dX5_looking_59 (by decide) ?_
      refine lv_idiv hx hb dX5_looking_61 (by decide) ?_
      refine lv_iload hx hb dX5_looking_62 (lv_at hl 5 rfl) ?_
      refine lv_isub hx hb dX5_looking_64 ?_
      obtain ⟨rfl, rfl⟩ := ret_at h
      exact q_iret C hw dX5_looking_65
    · replace h := ie_at h c_1
      refine lv_aload_n hx hb dX5_looking_13 rfl (lv_at hl 0 rfl) ?_
      refine lv_iconst (v := 1) hx hb dX5_looking_14 (by decide) ?_
      refine lv_iload hx hb dX5_looking_15 (lv_at hl 6 rfl) ?_
      obtain ⟨σ_6, h_7, h⟩ := bv_at h
      refine q_afterV hw (q_runV C hw hl.1 (As := [.int (1 : Int32), .int x6]) (rest := []) (m_X5_followKind l E (1 : Int32) x6 σ σ_6 h_7) yq_X5_followKind tC_41 rfl rfl kw_829 ⟨Nat.le_of_ble_eq_true rfl, Nat.le_of_ble_eq_true rfl⟩ rfl (Nat.le_of_ble_eq_true rfl) ⟨Nat.zero_le _, Nat.zero_le _⟩ dX5_looking_17) (fun H locs hw => ?_)
      refine lv_aload_n hx hb dX5_looking_20 rfl (lv_at hl 0 rfl) ?_
      refine lv_iload_n hx hb dX5_looking_21 rfl (lv_at hl 1 rfl) ?_
      refine lv_iconst (v := (-1)) hx hb dX5_looking_22 (by decide) ?_
      refine lv_iconst (v := 0) hx hb dX5_looking_23 (by decide) ?_
      obtain ⟨σ_9, h_10, h⟩ := bv_at h
      refine q_afterV hw (q_runV C hw hl.1 (As := [.int x1, .int (-1 : Int32), .int (0 : Int32)]) (rest := []) (m_X5_startMean l E x1 (-1 : Int32) (0 : Int32) σ_6 σ_9 h_10) yq_X5_startMean tC_41 rfl rfl kw_795 ⟨Nat.le_of_ble_eq_true rfl, Nat.le_of_ble_eq_true rfl⟩ rfl (Nat.le_of_ble_eq_true rfl) ⟨Nat.zero_le _, Nat.zero_le _⟩ dX5_looking_24) (fun H locs hw => ?_)
      refine lv_iload hx hb dX5_looking_27 (lv_at hl 5 rfl) ?_
      refine lv_aload_n hx hb dX5_looking_29 rfl (lv_at hl 0 rfl) ?_
      refine lv_iconst (v := 0) hx hb dX5_looking_30 (by decide) ?_
      refine lv_iload_n hx hb dX5_looking_31 rfl (lv_at hl 2 rfl) ?_
      refine lv_iload_n hx hb dX5_looking_32 rfl (lv_at hl 2 rfl) ?_
      refine lv_iload_n hx hb dX5_looking_33 rfl (lv_at hl 3 rfl) ?_
      refine lv_iload hx hb dX5_looking_34 (lv_at hl 4 rfl) ?_
      obtain ⟨r_11, σ_12, h_13, h⟩ := bd_at h
      refine q_afterI hw (q_runV C hw hl.1 (As := [.int (0 : Int32), .int x2, .int x2, .int x3, .int x4]) (rest := [.int x5]) (m_X5_meanFrom l E (0 : Int32) x2 x2 x3 x4 σ_9 r_11 σ_12 h_13) yq_X5_meanFrom tC_41 rfl rfl kw_799 ⟨Nat.le_of_ble_eq_true rfl, Nat.le_of_ble_eq_true rfl⟩ rfl (Nat.le_of_ble_eq_true rfl) ⟨Nat.zero_le _, Nat.zero_le _⟩ dX5_looking_36) (fun H locs hw => ?_)
      refine q_max C hl.1 kw_833 (Nat.le_of_ble_eq_true rfl) (Nat.le_of_ble_eq_true rfl) (Nat.le_of_ble_eq_true rfl) ⟨Nat.zero_le _, Nat.zero_le _⟩ dX5_looking_39 ?_
      obtain ⟨x5_14, ex5_14, h⟩ := lt_at h
      refine q_top ex5_14 ?_
      refine lv_istore (lv' := [(5, .int x5_14), (0, .ref (E.2.1 (41))), (1, .int x1), (2, .int x2), (3, .int x3), (4, .int x4), (6, .int x6)]) hx hb dX5_looking_42 hl (by decide) rfl (fun ls hl => ?_)
      obtain ⟨x6_15, ex6_15, h⟩ := lt_at h
      refine lv_iinc (v := x6_15) (lv' := [(6, .int x6_15), (5, .int x5_14), (0, .ref (E.2.1 (41))), (1, .int x1), (2, .int x2), (3, .int x3), (4, .int x4)]) hx hb dX5_looking_44 hl (k := 6) rfl (by rw [ex6_15]; rfl) (by decide) rfl (fun ls hl => ?_)
      refine lv_goto (tgt := 6) hx hb dX5_looking_47 (by decide) ?_
      exact hk6 _ _ _ _ _ _ _ _ _ _ hw (lv_sub hl [2, 3, 4, 5, 6, 1, 0] rfl) h
set_option maxHeartbeats 4000000 in
set_option maxRecDepth 100000 in
theorem m_X5_looking (l : Launch) (E : EV) (p1 : Int32) (p2 : Int32) (p3 : Int32) (p4 : Int32) (σ : Mem) (rr : Int32) (τ : Mem) (h : f_X5_looking p1 p2 p3 p4 σ = some (rr, τ)) : MI TC l E yX5_looking cX5_looking 7 (some .int) 233 8939 [.ref (E.2.1 (41)), .int p1, .int p2, .int p3, .int p4] σ rr τ := by
  refine mt_start RX5 (by decide +kernel) rfl (Nat.le_of_ble_eq_true rfl) (fun p e s m args below meth c ls C hw hl => ?_)
  replace hl : lv_has ls 7 [(0, .ref (E.2.1 (41))), (1, .int p1), (2, .int p2), (3, .int p3), (4, .int p4)] := hl
  obtain ⟨hx, hb, hml, hown, hts, hK, hSt, hlk, hr⟩ := id C
  unfold f_X5_looking at h
  refine lv_iconst (v := 0) hx hb dX5_looking_0 (by decide) ?_
  refine lv_istore (lv' := [(5, .int (0 : Int32)), (0, .ref (E.2.1 (41))), (1, .int p1), (2, .int p2), (3, .int p3), (4, .int p4)]) hx hb dX5_looking_1 hl (by decide) rfl (fun ls hl => ?_)
  refine lv_iconst (v := 0) hx hb dX5_looking_3 (by decide) ?_
  refine lv_istore (lv' := [(6, .int (0 : Int32)), (5, .int (0 : Int32)), (0, .ref (E.2.1 (41))), (1, .int p1), (2, .int p2), (3, .int p3), (4, .int p4)]) hx hb dX5_looking_4 hl (by decide) rfl (fun ls hl => ?_)
  exact w_X5_looking_6 C _ _ _ _ _ _ _ _ _ _ _ hw (lv_sub hl [2, 3, 4, 5, 6, 1, 0] rfl) h
def f_X5_meanFor (p1 : Int32) (p2 : Int32) (p3 : Int32) (p4 : Int32) (σ : Mem) : Option (Int32 × Mem) :=
  bv (f_X5_startMean p1 (-1 : Int32) (0 : Int32) σ) fun σ_2 =>
  bd (f_X5_meanFrom (0 : Int32) p2 p2 p3 p4 σ_2) fun r_4 σ_5 =>
  some (r_4, σ_5)
set_option maxHeartbeats 4000000 in
set_option maxRecDepth 100000 in
theorem m_X5_meanFor (l : Launch) (E : EV) (p1 : Int32) (p2 : Int32) (p3 : Int32) (p4 : Int32) (σ : Mem) (rr : Int32) (τ : Mem) (h : f_X5_meanFor p1 p2 p3 p4 σ = some (rr, τ)) : MI TC l E yX5_meanFor cX5_meanFor 5 (some .int) 233 8939 [.ref (E.2.1 (41)), .int p1, .int p2, .int p3, .int p4] σ rr τ := by
  refine mt_start RX5 (by decide +kernel) rfl (Nat.le_of_ble_eq_true rfl) (fun p e s m args below meth c ls C hw hl => ?_)
  replace hl : lv_has ls 5 [(0, .ref (E.2.1 (41))), (1, .int p1), (2, .int p2), (3, .int p3), (4, .int p4)] := hl
  obtain ⟨hx, hb, hml, hown, hts, hK, hSt, hlk, hr⟩ := id C
  unfold f_X5_meanFor at h
  refine lv_aload_n hx hb dX5_meanFor_0 rfl (lv_at hl 0 rfl) ?_
  refine lv_iload_n hx hb dX5_meanFor_1 rfl (lv_at hl 1 rfl) ?_
  refine lv_iconst (v := (-1)) hx hb dX5_meanFor_2 (by decide) ?_
  refine lv_iconst (v := 0) hx hb dX5_meanFor_3 (by decide) ?_
  obtain ⟨σ_2, h_3, h⟩ := bv_at h
  refine q_afterV hw (q_runV C hw hl.1 (As := [.int p1, .int (-1 : Int32), .int (0 : Int32)]) (rest := []) (m_X5_startMean l E p1 (-1 : Int32) (0 : Int32) σ σ_2 h_3) yq_X5_startMean tC_41 rfl rfl kw_795 ⟨Nat.le_of_ble_eq_true rfl, Nat.le_of_ble_eq_true rfl⟩ rfl (Nat.le_of_ble_eq_true rfl) ⟨Nat.zero_le _, Nat.zero_le _⟩ dX5_meanFor_4) (fun H locs hw => ?_)
  refine lv_aload_n hx hb dX5_meanFor_7 rfl (lv_at hl 0 rfl) ?_
  refine lv_iconst (v := 0) hx hb dX5_meanFor_8 (by decide) ?_
  refine lv_iload_n hx hb dX5_meanFor_9 rfl (lv_at hl 2 rfl) ?_
  refine lv_iload_n hx hb dX5_meanFor_10 rfl (lv_at hl 2 rfl) ?_
  refine lv_iload_n hx hb dX5_meanFor_11 rfl (lv_at hl 3 rfl) ?_
  refine lv_iload hx hb dX5_meanFor_12 (lv_at hl 4 rfl) ?_
  obtain ⟨r_4, σ_5, h_6, h⟩ := bd_at h
  refine q_afterI hw (q_runV C hw hl.1 (As := [.int (0 : Int32), .int p2, .int p2, .int p3, .int p4]) (rest := []) (m_X5_meanFrom l E (0 : Int32) p2 p2 p3 p4 σ_2 r_4 σ_5 h_6) yq_X5_meanFrom tC_41 rfl rfl kw_799 ⟨Nat.le_of_ble_eq_true rfl, Nat.le_of_ble_eq_true rfl⟩ rfl (Nat.le_of_ble_eq_true rfl) ⟨Nat.zero_le _, Nat.zero_le _⟩ dX5_meanFor_14) (fun H locs hw => ?_)
  obtain ⟨rfl, rfl⟩ := ret_at h
  exact q_iret C hw dX5_meanFor_17
def f_X7_append (p1 : Int32) (p2 : Int32) (σ : Mem) : Option (Int32 × Mem) :=
  if (gI σ 8 4) < (10 : Int32) then
    (gd (ib (gI σ 8 4) 10) <|
    lt (sI σ 9 (gI σ 8 4).toNatClampNeg p1) fun σ_2 =>
    gd (ib (gI σ_2 8 4) 10) <|
    lt (sI σ_2 10 (gI σ_2 8 4).toNatClampNeg p2) fun σ_4 =>
    gd (ib (gI σ_4 8 4) 10) <|
    lt (sI σ_4 11 (gI σ_4 8 4).toNatClampNeg (0 : Int32)) fun σ_6 =>
    lt (sI σ_6 8 4 ((gI σ_6 8 4) + (1 : Int32))) fun σ_8 =>
    some ((gI σ_8 8 4) - (1 : Int32), σ_8))
  else
    some ((-4 : Int32), σ)
set_option maxHeartbeats 4000000 in
set_option maxRecDepth 100000 in
theorem m_X7_append (l : Launch) (E : EV) (p1 : Int32) (p2 : Int32) (σ : Mem) (rr : Int32) (τ : Mem) (h : f_X7_append p1 p2 σ = some (rr, τ)) : MI TC l E yX7_append cX7_append 3 (some .int) 0 0 [.ref (E.2.1 (8)), .int p1, .int p2] σ rr τ := by
  refine mt_start RX7 (by decide +kernel) rfl (Nat.le_of_ble_eq_true rfl) (fun p e s m args below meth c ls C hw hl => ?_)
  replace hl : lv_has ls 3 [(0, .ref (E.2.1 (8))), (1, .int p1), (2, .int p2)] := hl
  obtain ⟨hx, hb, hml, hown, hts, hK, hSt, hlk, hr⟩ := id C
  unfold f_X7_append at h
  refine lv_aload_n hx hb dX7_append_0 rfl (lv_at hl 0 rfl) ?_
  refine gf_7_4 C hw tC_8 kw_188 dX7_append_1 ?_
  refine lv_bipush (v := 10) hx hb dX7_append_4 (by decide) ?_
  refine lv_icmp_lt (tgt := 12) hx hb dX7_append_6 (by decide) (fun c_1 => ?_) (fun c_1 => ?_)
  · replace h := it_at h c_1
    refine lv_aload_n hx hb dX7_append_12 rfl (lv_at hl 0 rfl) ?_
    refine gf_7_0 C hw tC_8 kw_177 (c1 := 9) rfl dX7_append_13 ?_
    refine lv_aload_n hx hb dX7_append_16 rfl (lv_at hl 0 rfl) ?_
    refine gf_7_4 C hw tC_8 kw_188 dX7_append_17 ?_
    refine lv_iload_n hx hb dX7_append_20 rfl (lv_at hl 1 rfl) ?_
    obtain ⟨g_3, h⟩ := gd_at h
    obtain ⟨σ_2, eσ_2, h⟩ := lt_at h
    refine q_iast C hw tC_9 g_3 eσ_2 dX7_append_21 (fun H locs hw => ?_)
    refine lv_aload_n hx hb dX7_append_22 rfl (lv_at hl 0 rfl) ?_
    refine gf_7_1 C hw tC_8 kw_181 (c1 := 10) rfl dX7_append_23 ?_
    refine lv_aload_n hx hb dX7_append_26 rfl (lv_at hl 0 rfl) ?_
    refine gf_7_4 C hw tC_8 kw_188 dX7_append_27 ?_
    refine lv_iload_n hx hb dX7_append_30 rfl (lv_at hl 2 rfl) ?_
    obtain ⟨g_5, h⟩ := gd_at h
    obtain ⟨σ_4, eσ_4, h⟩ := lt_at h
    refine q_iast C hw tC_10 g_5 eσ_4 dX7_append_31 (fun H locs hw => ?_)
    refine lv_aload_n hx hb dX7_append_32 rfl (lv_at hl 0 rfl) ?_
    refine gf_7_2 C hw tC_8 kw_185 (c1 := 11) rfl dX7_append_33 ?_
    refine lv_aload_n hx hb dX7_append_36 rfl (lv_at hl 0 rfl) ?_
    refine gf_7_4 C hw tC_8 kw_188 dX7_append_37 ?_
    refine lv_iconst (v := 0) hx hb dX7_append_40 (by decide) ?_
    obtain ⟨g_7, h⟩ := gd_at h
    obtain ⟨σ_6, eσ_6, h⟩ := lt_at h
    refine q_iast C hw tC_11 g_7 eσ_6 dX7_append_41 (fun H locs hw => ?_)
    refine lv_aload_n hx hb dX7_append_42 rfl (lv_at hl 0 rfl) ?_
    refine lv_dup hx hb dX7_append_43 rfl ?_
    refine gf_7_4 C hw tC_8 kw_188 dX7_append_44 ?_
    refine lv_iconst (v := 1) hx hb dX7_append_47 (by decide) ?_
    refine lv_iadd hx hb dX7_append_48 ?_
    obtain ⟨σ_8, eσ_8, h⟩ := lt_at h
    refine pf_7_4 C hw tC_8 kw_188 eσ_8 dX7_append_49 (fun H locs hw => ?_)
    refine lv_aload_n hx hb dX7_append_52 rfl (lv_at hl 0 rfl) ?_
    refine gf_7_4 C hw tC_8 kw_188 dX7_append_53 ?_
    refine lv_iconst (v := 1) hx hb dX7_append_56 (by decide) ?_
    refine lv_isub hx hb dX7_append_57 ?_
    obtain ⟨rfl, rfl⟩ := ret_at h
    exact q_iret C hw dX7_append_58
  · replace h := ie_at h c_1
    refine lv_bipush (v := (-4)) hx hb dX7_append_9 (by decide) ?_
    obtain ⟨rfl, rfl⟩ := ret_at h
    exact q_iret C hw dX7_append_11
def f_X7_appendToRow (p1 : Int32) (p2 : Int32) (σ : Mem) : Option (Int32 × Mem) :=
  gd (ib p1 10) <|
  lt (gI σ 11 p1.toNatClampNeg) fun x3_2 =>
  if x3_2 < 0 then
    (some ((-4 : Int32), σ))
  else
    if x3_2 < (10 : Int32) then
      (gd (ib ((p1 * (10 : Int32)) + x3_2) 100) <|
      lt (sI σ 12 ((p1 * (10 : Int32)) + x3_2).toNatClampNeg p2) fun σ_5 =>
      gd (ib p1 10) <|
      lt (sI σ_5 11 p1.toNatClampNeg (x3_2 + (1 : Int32))) fun σ_7 =>
      some (x3_2 + (1 : Int32), σ_7))
    else
      some ((-4 : Int32), σ)
set_option maxHeartbeats 4000000 in
set_option maxRecDepth 100000 in
theorem m_X7_appendToRow (l : Launch) (E : EV) (p1 : Int32) (p2 : Int32) (σ : Mem) (rr : Int32) (τ : Mem) (h : f_X7_appendToRow p1 p2 σ = some (rr, τ)) : MI TC l E yX7_appendToRow cX7_appendToRow 4 (some .int) 0 0 [.ref (E.2.1 (8)), .int p1, .int p2] σ rr τ := by
  refine mt_start RX7 (by decide +kernel) rfl (Nat.le_of_ble_eq_true rfl) (fun p e s m args below meth c ls C hw hl => ?_)
  replace hl : lv_has ls 4 [(0, .ref (E.2.1 (8))), (1, .int p1), (2, .int p2)] := hl
  obtain ⟨hx, hb, hml, hown, hts, hK, hSt, hlk, hr⟩ := id C
  unfold f_X7_appendToRow at h
  refine lv_aload_n hx hb dX7_appendToRow_0 rfl (lv_at hl 0 rfl) ?_
  refine gf_7_2 C hw tC_8 kw_185 (c1 := 11) rfl dX7_appendToRow_1 ?_
  refine lv_iload_n hx hb dX7_appendToRow_4 rfl (lv_at hl 1 rfl) ?_
  obtain ⟨g_1, h⟩ := gd_at h
  refine q_iald C hw tC_11 g_1 dX7_appendToRow_5 ?_
  obtain ⟨x3_2, ex3_2, h⟩ := lt_at h
  refine q_top ex3_2 ?_
  refine lv_istore_n (lv' := [(3, .int x3_2), (0, .ref (E.2.1 (8))), (1, .int p1), (2, .int p2)]) hx hb dX7_appendToRow_6 rfl hl (by decide) rfl (fun ls hl => ?_)
  refine lv_iload_n hx hb dX7_appendToRow_7 rfl (lv_at hl 0 rfl) ?_
  refine lv_if_lt (tgt := 17) hx hb dX7_appendToRow_8 (by decide) (fun c_3 => ?_) (fun c_3 => ?_)
  · replace h := it_at h c_3
    refine lv_bipush (v := (-4)) hx hb dX7_appendToRow_17 (by decide) ?_
    obtain ⟨rfl, rfl⟩ := ret_at h
    exact q_iret C hw dX7_appendToRow_19
  · replace h := ie_at h c_3
    refine lv_iload_n hx hb dX7_appendToRow_11 rfl (lv_at hl 0 rfl) ?_
    refine lv_bipush (v := 10) hx hb dX7_appendToRow_12 (by decide) ?_
    refine lv_icmp_lt (tgt := 20) hx hb dX7_appendToRow_14 (by decide) (fun c_4 => ?_) (fun c_4 => ?_)
    · replace h := it_at h c_4
      refine lv_aload_n hx hb dX7_appendToRow_20 rfl (lv_at hl 1 rfl) ?_
      refine gf_7_3 C hw tC_8 kw_187 (c1 := 12) rfl dX7_appendToRow_21 ?_
      refine lv_iload_n hx hb dX7_appendToRow_24 rfl (lv_at hl 2 rfl) ?_
      refine lv_bipush (v := 10) hx hb dX7_appendToRow_25 (by decide) ?_
      refine lv_imul hx hb dX7_appendToRow_27 ?_
      refine lv_iload_n hx hb dX7_appendToRow_28 rfl (lv_at hl 0 rfl) ?_
      refine lv_iadd hx hb dX7_appendToRow_29 ?_
      refine lv_iload_n hx hb dX7_appendToRow_30 rfl (lv_at hl 3 rfl) ?_
      obtain ⟨g_6, h⟩ := gd_at h
      obtain ⟨σ_5, eσ_5, h⟩ := lt_at h
      refine q_iast C hw tC_12 g_6 eσ_5 dX7_appendToRow_31 (fun H locs hw => ?_)
      refine lv_aload_n hx hb dX7_appendToRow_32 rfl (lv_at hl 1 rfl) ?_
      refine gf_7_2 C hw tC_8 kw_185 (c1 := 11) rfl dX7_appendToRow_33 ?_
      refine lv_iload_n hx hb dX7_appendToRow_36 rfl (lv_at hl 2 rfl) ?_
      refine lv_iload_n hx hb dX7_appendToRow_37 rfl (lv_at hl 0 rfl) ?_
      refine lv_iconst (v := 1) hx hb dX7_appendToRow_38 (by decide) ?_
      refine lv_iadd hx hb dX7_appendToRow_39 ?_
      obtain ⟨g_8, h⟩ := gd_at h
      obtain ⟨σ_7, eσ_7, h⟩ := lt_at h
      refine q_iast C hw tC_11 g_8 eσ_7 dX7_appendToRow_40 (fun H locs hw => ?_)
      refine lv_iload_n hx hb dX7_appendToRow_41 rfl (lv_at hl 0 rfl) ?_
      refine lv_iconst (v := 1) hx hb dX7_appendToRow_42 (by decide) ?_
      refine lv_iadd hx hb dX7_appendToRow_43 ?_
      obtain ⟨rfl, rfl⟩ := ret_at h
      exact q_iret C hw dX7_appendToRow_44
    · replace h := ie_at h c_4
      refine lv_bipush (v := (-4)) hx hb dX7_appendToRow_17 (by decide) ?_
      obtain ⟨rfl, rfl⟩ := ret_at h
      exact q_iret C hw dX7_appendToRow_19
def f_X7_copyFroma (σ : Mem) : Option Mem :=
  lt (cpI σ 28 9 10) fun σ_1 =>
  lt (cpI σ_1 29 10 10) fun σ_2 =>
  lt (cpI σ_2 30 11 10) fun σ_3 =>
  lt (cpI σ_3 31 12 100) fun σ_4 =>
  lt (sI σ_4 8 4 (gI σ_4 27 4)) fun σ_5 =>
  some σ_5
set_option maxHeartbeats 4000000 in
set_option maxRecDepth 100000 in
theorem m_X7_copyFroma (l : Launch) (E : EV) (σ : Mem) (τ : Mem) (h : f_X7_copyFroma  σ = some τ) : MV TC l E yX7_copyFrom cX7_copyFrom 2 none 1 60 [.ref (E.2.1 (8)), .ref (E.2.1 (27))] σ τ := by
  refine mt_start RX7 (by decide +kernel) rfl (Nat.le_of_ble_eq_true rfl) (fun p e s m args below meth c ls C hw hl => ?_)
  replace hl : lv_has ls 2 [(0, .ref (E.2.1 (8))), (1, .ref (E.2.1 (27)))] := hl
  obtain ⟨hx, hb, hml, hown, hts, hK, hSt, hlk, hr⟩ := id C
  unfold f_X7_copyFroma at h
  refine lv_aload_n hx hb dX7_copyFrom_0 rfl (lv_at hl 1 rfl) ?_
  refine gf_7_0 C hw tC_27 kw_177 (c1 := 28) rfl dX7_copyFrom_1 ?_
  refine lv_iconst (v := 0) hx hb dX7_copyFrom_4 (by decide) ?_
  refine lv_aload_n hx hb dX7_copyFrom_5 rfl (lv_at hl 0 rfl) ?_
  refine gf_7_0 C hw tC_8 kw_177 (c1 := 9) rfl dX7_copyFrom_6 ?_
  refine lv_iconst (v := 0) hx hb dX7_copyFrom_9 (by decide) ?_
  refine lv_bipush (v := 10) hx hb dX7_copyFrom_10 (by decide) ?_
  obtain ⟨σ_1, eσ_1, h⟩ := lt_at h
  refine q_copy C hw hl.1 kw_994 (Nat.le_of_ble_eq_true rfl) (Nat.le_of_ble_eq_true (by rfl)) (Nat.le_of_ble_eq_true rfl) tC_28 tC_9 rfl (by decide) eσ_1 dX7_copyFrom_12 (fun H locs hw => ?_)
  refine lv_aload_n hx hb dX7_copyFrom_15 rfl (lv_at hl 1 rfl) ?_
  refine gf_7_1 C hw tC_27 kw_181 (c1 := 29) rfl dX7_copyFrom_16 ?_
  refine lv_iconst (v := 0) hx hb dX7_copyFrom_19 (by decide) ?_
  refine lv_aload_n hx hb dX7_copyFrom_20 rfl (lv_at hl 0 rfl) ?_
  refine gf_7_1 C hw tC_8 kw_181 (c1 := 10) rfl dX7_copyFrom_21 ?_
  refine lv_iconst (v := 0) hx hb dX7_copyFrom_24 (by decide) ?_
  refine lv_bipush (v := 10) hx hb dX7_copyFrom_25 (by decide) ?_
  obtain ⟨σ_2, eσ_2, h⟩ := lt_at h
  refine q_copy C hw hl.1 kw_994 (Nat.le_of_ble_eq_true rfl) (Nat.le_of_ble_eq_true (by rfl)) (Nat.le_of_ble_eq_true rfl) tC_29 tC_10 rfl (by decide) eσ_2 dX7_copyFrom_27 (fun H locs hw => ?_)
  refine lv_aload_n hx hb dX7_copyFrom_30 rfl (lv_at hl 1 rfl) ?_
  refine gf_7_2 C hw tC_27 kw_185 (c1 := 30) rfl dX7_copyFrom_31 ?_
  refine lv_iconst (v := 0) hx hb dX7_copyFrom_34 (by decide) ?_
  refine lv_aload_n hx hb dX7_copyFrom_35 rfl (lv_at hl 0 rfl) ?_
  refine gf_7_2 C hw tC_8 kw_185 (c1 := 11) rfl dX7_copyFrom_36 ?_
  refine lv_iconst (v := 0) hx hb dX7_copyFrom_39 (by decide) ?_
  refine lv_bipush (v := 10) hx hb dX7_copyFrom_40 (by decide) ?_
  obtain ⟨σ_3, eσ_3, h⟩ := lt_at h
  refine q_copy C hw hl.1 kw_994 (Nat.le_of_ble_eq_true rfl) (Nat.le_of_ble_eq_true (by rfl)) (Nat.le_of_ble_eq_true rfl) tC_30 tC_11 rfl (by decide) eσ_3 dX7_copyFrom_42 (fun H locs hw => ?_)
  refine lv_aload_n hx hb dX7_copyFrom_45 rfl (lv_at hl 1 rfl) ?_
  refine gf_7_3 C hw tC_27 kw_187 (c1 := 31) rfl dX7_copyFrom_46 ?_
  refine lv_iconst (v := 0) hx hb dX7_copyFrom_49 (by decide) ?_
  refine lv_aload_n hx hb dX7_copyFrom_50 rfl (lv_at hl 0 rfl) ?_
  refine gf_7_3 C hw tC_8 kw_187 (c1 := 12) rfl dX7_copyFrom_51 ?_
  refine lv_iconst (v := 0) hx hb dX7_copyFrom_54 (by decide) ?_
  refine lv_aload_n hx hb dX7_copyFrom_55 rfl (lv_at hl 0 rfl) ?_
  refine gf_7_3 C hw tC_8 kw_187 (c1 := 12) rfl dX7_copyFrom_56 ?_
  refine q_alen C hw tC_12 (v := 100) rfl dX7_copyFrom_59 ?_
  obtain ⟨σ_4, eσ_4, h⟩ := lt_at h
  refine q_copy C hw hl.1 kw_994 (Nat.le_of_ble_eq_true rfl) (Nat.le_of_ble_eq_true (by rfl)) (Nat.le_of_ble_eq_true rfl) tC_31 tC_12 rfl (by decide) eσ_4 dX7_copyFrom_60 (fun H locs hw => ?_)
  refine lv_aload_n hx hb dX7_copyFrom_63 rfl (lv_at hl 0 rfl) ?_
  refine lv_aload_n hx hb dX7_copyFrom_64 rfl (lv_at hl 1 rfl) ?_
  refine gf_7_4 C hw tC_27 kw_188 dX7_copyFrom_65 ?_
  obtain ⟨σ_5, eσ_5, h⟩ := lt_at h
  refine pf_7_4 C hw tC_8 kw_188 eσ_5 dX7_copyFrom_68 (fun H locs hw => ?_)
  cases h
  exact q_vret C hw dX7_copyFrom_71
def f_X7_copyFromb (σ : Mem) : Option Mem :=
  lt (cpI σ 9 28 10) fun σ_1 =>
  lt (cpI σ_1 10 29 10) fun σ_2 =>
  lt (cpI σ_2 11 30 10) fun σ_3 =>
  lt (cpI σ_3 12 31 100) fun σ_4 =>
  lt (sI σ_4 27 4 (gI σ_4 8 4)) fun σ_5 =>
  some σ_5
set_option maxHeartbeats 4000000 in
set_option maxRecDepth 100000 in
theorem m_X7_copyFromb (l : Launch) (E : EV) (σ : Mem) (τ : Mem) (h : f_X7_copyFromb  σ = some τ) : MV TC l E yX7_copyFrom cX7_copyFrom 2 none 1 60 [.ref (E.2.1 (27)), .ref (E.2.1 (8))] σ τ := by
  refine mt_start RX7 (by decide +kernel) rfl (Nat.le_of_ble_eq_true rfl) (fun p e s m args below meth c ls C hw hl => ?_)
  replace hl : lv_has ls 2 [(0, .ref (E.2.1 (27))), (1, .ref (E.2.1 (8)))] := hl
  obtain ⟨hx, hb, hml, hown, hts, hK, hSt, hlk, hr⟩ := id C
  unfold f_X7_copyFromb at h
  refine lv_aload_n hx hb dX7_copyFrom_0 rfl (lv_at hl 1 rfl) ?_
  refine gf_7_0 C hw tC_8 kw_177 (c1 := 9) rfl dX7_copyFrom_1 ?_
  refine lv_iconst (v := 0) hx hb dX7_copyFrom_4 (by decide) ?_
  refine lv_aload_n hx hb dX7_copyFrom_5 rfl (lv_at hl 0 rfl) ?_
  refine gf_7_0 C hw tC_27 kw_177 (c1 := 28) rfl dX7_copyFrom_6 ?_
  refine lv_iconst (v := 0) hx hb dX7_copyFrom_9 (by decide) ?_
  refine lv_bipush (v := 10) hx hb dX7_copyFrom_10 (by decide) ?_
  obtain ⟨σ_1, eσ_1, h⟩ := lt_at h
  refine q_copy C hw hl.1 kw_994 (Nat.le_of_ble_eq_true rfl) (Nat.le_of_ble_eq_true (by rfl)) (Nat.le_of_ble_eq_true rfl) tC_9 tC_28 rfl (by decide) eσ_1 dX7_copyFrom_12 (fun H locs hw => ?_)
  refine lv_aload_n hx hb dX7_copyFrom_15 rfl (lv_at hl 1 rfl) ?_
  refine gf_7_1 C hw tC_8 kw_181 (c1 := 10) rfl dX7_copyFrom_16 ?_
  refine lv_iconst (v := 0) hx hb dX7_copyFrom_19 (by decide) ?_
  refine lv_aload_n hx hb dX7_copyFrom_20 rfl (lv_at hl 0 rfl) ?_
  refine gf_7_1 C hw tC_27 kw_181 (c1 := 29) rfl dX7_copyFrom_21 ?_
  refine lv_iconst (v := 0) hx hb dX7_copyFrom_24 (by decide) ?_
  refine lv_bipush (v := 10) hx hb dX7_copyFrom_25 (by decide) ?_
  obtain ⟨σ_2, eσ_2, h⟩ := lt_at h
  refine q_copy C hw hl.1 kw_994 (Nat.le_of_ble_eq_true rfl) (Nat.le_of_ble_eq_true (by rfl)) (Nat.le_of_ble_eq_true rfl) tC_10 tC_29 rfl (by decide) eσ_2 dX7_copyFrom_27 (fun H locs hw => ?_)
  refine lv_aload_n hx hb dX7_copyFrom_30 rfl (lv_at hl 1 rfl) ?_
  refine gf_7_2 C hw tC_8 kw_185 (c1 := 11) rfl dX7_copyFrom_31 ?_
  refine lv_iconst (v := 0) hx hb dX7_copyFrom_34 (by decide) ?_
  refine lv_aload_n hx hb dX7_copyFrom_35 rfl (lv_at hl 0 rfl) ?_
  refine gf_7_2 C hw tC_27 kw_185 (c1 := 30) rfl dX7_copyFrom_36 ?_
  refine lv_iconst (v := 0) hx hb dX7_copyFrom_39 (by decide) ?_
  refine lv_bipush (v := 10) hx hb dX7_copyFrom_40 (by decide) ?_
  obtain ⟨σ_3, eσ_3, h⟩ := lt_at h
  refine q_copy C hw hl.1 kw_994 (Nat.le_of_ble_eq_true rfl) (Nat.le_of_ble_eq_true (by rfl)) (Nat.le_of_ble_eq_true rfl) tC_11 tC_30 rfl (by decide) eσ_3 dX7_copyFrom_42 (fun H locs hw => ?_)
  refine lv_aload_n hx hb dX7_copyFrom_45 rfl (lv_at hl 1 rfl) ?_
  refine gf_7_3 C hw tC_8 kw_187 (c1 := 12) rfl dX7_copyFrom_46 ?_
  refine lv_iconst (v := 0) hx hb dX7_copyFrom_49 (by decide) ?_
  refine lv_aload_n hx hb dX7_copyFrom_50 rfl (lv_at hl 0 rfl) ?_
  refine gf_7_3 C hw tC_27 kw_187 (c1 := 31) rfl dX7_copyFrom_51 ?_
  refine lv_iconst (v := 0) hx hb dX7_copyFrom_54 (by decide) ?_
  refine lv_aload_n hx hb dX7_copyFrom_55 rfl (lv_at hl 0 rfl) ?_
  refine gf_7_3 C hw tC_27 kw_187 (c1 := 31) rfl dX7_copyFrom_56 ?_
  refine q_alen C hw tC_31 (v := 100) rfl dX7_copyFrom_59 ?_
  obtain ⟨σ_4, eσ_4, h⟩ := lt_at h
  refine q_copy C hw hl.1 kw_994 (Nat.le_of_ble_eq_true rfl) (Nat.le_of_ble_eq_true (by rfl)) (Nat.le_of_ble_eq_true rfl) tC_12 tC_31 rfl (by decide) eσ_4 dX7_copyFrom_60 (fun H locs hw => ?_)
  refine lv_aload_n hx hb dX7_copyFrom_63 rfl (lv_at hl 0 rfl) ?_
  refine lv_aload_n hx hb dX7_copyFrom_64 rfl (lv_at hl 1 rfl) ?_
  refine gf_7_4 C hw tC_8 kw_188 dX7_copyFrom_65 ?_
  obtain ⟨σ_5, eσ_5, h⟩ := lt_at h
  refine pf_7_4 C hw tC_27 kw_188 eσ_5 dX7_copyFrom_68 (fun H locs hw => ?_)
  cases h
  exact q_vret C hw dX7_copyFrom_71
def f_X7_isUnder_4 (k4 : Int32 → Int32 → Int32 → Mem → Option (Int32 × Mem)) (x1 : Int32) (x2 : Int32) (x3 : Int32) (σ : Mem) : Option (Int32 × Mem) :=
  if (7 : Int32) ≤ x3 then
    (some ((0 : Int32), σ))
  else
    if x2 < 0 then
      (some ((0 : Int32), σ))
    else
      if x2 = x1 then
        (some ((1 : Int32), σ))
      else
        bd (f_X7_above x2 σ) fun r_4 σ_5 =>
        lt (x3 + (1 : Int32)) fun x3_7 =>
        k4 x1 r_4 x3_7 σ_5
def f_X7_isUnder (p0 : Int32) (p1 : Int32) (σ : Mem) : Option (Int32 × Mem) :=
  fx4 (f_X7_isUnder_4) FU p1 p0 (0 : Int32) σ
set_option maxHeartbeats 4000000 in
set_option maxRecDepth 100000 in
theorem w_X7_isUnder_4 {p : Program} {l : Launch} {e : Env} {s : State} {m : MethodId} {args : Array Value} {below : List Frame} {meth : Method} {c : Code} {E : EV} {rr : Int32} {τ : Mem} (C : Cx E p s m args meth c cX7_isUnder 4 (some .boolean) RX7) : ∀ (n : Nat) (x1 : Int32) (x2 : Int32) (x3 : Int32) (σ : Mem) (H : Heap) (locs : List Loc) (ls : Array Slot) (hw : Wd TC E σ s H locs) (hl : lv_has ls 4 [(1, .int x1), (2, .int x2), (3, .int x3)]) (h : fx4 (f_X7_isUnder_4) n x1 x2 x3 σ = some (rr, τ)), W p l e { frames := 1, cells := 0, slots := 0, locals := 20 } s m args below meth c H locs 0 0 (MQ below (QI TC E rr τ) args s 0 0 E.2.2.1) (F0 m 4 ls []) := by
  obtain ⟨hx, hb, hml, hown, hts, hK, hSt, hlk, hr⟩ := id C
  intro n
  induction n with
  | zero =>
    intro x1 x2 x3 σ H locs ls hw hl h
    have h : none = some (rr, τ) := h
    cases h
  | succ n hk4 =>
    intro x1 x2 x3 σ H locs ls hw hl h
    replace h : f_X7_isUnder_4 (fx4 (f_X7_isUnder_4) n) x1 x2 x3 σ = some (rr, τ) := h
    unfold f_X7_isUnder_4 at h
    refine lv_iload_n hx hb dX7_isUnder_4 rfl (lv_at hl 2 rfl) ?_
    refine lv_bipush (v := 7) hx hb dX7_isUnder_5 (by decide) ?_
    refine lv_icmp_ge (tgt := 32) hx hb dX7_isUnder_7 (by decide) (fun c_1 => ?_) (fun c_1 => ?_)
    · replace h := it_at h c_1
      refine lv_iconst (v := 0) hx hb dX7_isUnder_32 (by decide) ?_
      obtain ⟨rfl, rfl⟩ := ret_at h
      exact q_zret C (by decide) hw dX7_isUnder_33
    · replace h := ie_at h c_1
      refine lv_iload_n hx hb dX7_isUnder_10 rfl (lv_at hl 1 rfl) ?_
      refine lv_if_lt (tgt := 32) hx hb dX7_isUnder_11 (by decide) (fun c_2 => ?_) (fun c_2 => ?_)
      · replace h := it_at h c_2
        refine lv_iconst (v := 0) hx hb dX7_isUnder_32 (by decide) ?_
        obtain ⟨rfl, rfl⟩ := ret_at h
        exact q_zret C (by decide) hw dX7_isUnder_33
      · replace h := ie_at h c_2
        refine lv_iload_n hx hb dX7_isUnder_14 rfl (lv_at hl 1 rfl) ?_
        refine lv_iload_n hx hb dX7_isUnder_15 rfl (lv_at hl 0 rfl) ?_
        refine lv_icmp_ne (tgt := 21) hx hb dX7_isUnder_16 (by decide) (fun c_3 => ?_) (fun c_3 => ?_)
        · replace h := ie_at h c_3
          refine lv_iload_n hx hb dX7_isUnder_21 rfl (lv_at hl 1 rfl) ?_
          obtain ⟨r_4, σ_5, h_6, h⟩ := bd_at h
          refine q_afterI hw (q_runS C hw hl.1 (As := [.int x2]) (rest := []) (m_X7_above l E x2 σ r_4 σ_5 h_6) yq_X7_above kw_965 ⟨Nat.le_of_ble_eq_true rfl, Nat.le_of_ble_eq_true rfl⟩ rfl (Nat.le_of_ble_eq_true rfl) ⟨Nat.zero_le _, Nat.zero_le _⟩ dX7_isUnder_22) (fun H locs hw => ?_)
          refine lv_istore_n (lv' := [(2, .int r_4), (1, .int x1), (3, .int x3)]) hx hb dX7_isUnder_25 rfl hl (by decide) rfl (fun ls hl => ?_)
          obtain ⟨x3_7, ex3_7, h⟩ := lt_at h
          refine lv_iinc (v := x3_7) (lv' := [(3, .int x3_7), (2, .int r_4), (1, .int x1)]) hx hb dX7_isUnder_26 hl (k := 2) rfl (by rw [ex3_7]; rfl) (by decide) rfl (fun ls hl => ?_)
          refine lv_goto (tgt := 4) hx hb dX7_isUnder_29 (by decide) ?_
          exact hk4 _ _ _ _ _ _ _ hw (lv_sub hl [2, 1, 0] rfl) h
        · replace h := it_at h c_3
          refine lv_iconst (v := 1) hx hb dX7_isUnder_19 (by decide) ?_
          obtain ⟨rfl, rfl⟩ := ret_at h
          exact q_zret C (by decide) hw dX7_isUnder_20
set_option maxHeartbeats 4000000 in
set_option maxRecDepth 100000 in
theorem m_X7_isUnder (l : Launch) (E : EV) (p0 : Int32) (p1 : Int32) (σ : Mem) (rr : Int32) (τ : Mem) (h : f_X7_isUnder p0 p1 σ = some (rr, τ)) : MI TC l E yX7_isUnder cX7_isUnder 4 (some .boolean) 1 20 [.int p0, .int p1] σ rr τ := by
  refine mt_start RX7 (by decide +kernel) rfl (Nat.le_of_ble_eq_true rfl) (fun p e s m args below meth c ls C hw hl => ?_)
  replace hl : lv_has ls 4 [(0, .int p0), (1, .int p1)] := hl
  obtain ⟨hx, hb, hml, hown, hts, hK, hSt, hlk, hr⟩ := id C
  unfold f_X7_isUnder at h
  refine lv_iload_n hx hb dX7_isUnder_0 rfl (lv_at hl 0 rfl) ?_
  refine lv_istore_n (lv' := [(2, .int p0), (0, .int p0), (1, .int p1)]) hx hb dX7_isUnder_1 rfl hl (by decide) rfl (fun ls hl => ?_)
  refine lv_iconst (v := 0) hx hb dX7_isUnder_2 (by decide) ?_
  refine lv_istore_n (lv' := [(3, .int (0 : Int32)), (2, .int p0), (0, .int p0), (1, .int p1)]) hx hb dX7_isUnder_3 rfl hl (by decide) rfl (fun ls hl => ?_)
  exact w_X7_isUnder_4 C _ _ _ _ _ _ _ _ hw (lv_sub hl [3, 1, 0] rfl) h
def f_X9_copyFroma (σ : Mem) : Option Mem :=
  gd (by8 (σ.1 23) 120) <|
  lt (cpI σ 23 4 120) fun σ_1 =>
  lt (sI σ_1 3 1 (gI σ_1 22 1)) fun σ_3 =>
  some σ_3
set_option maxHeartbeats 4000000 in
set_option maxRecDepth 100000 in
theorem m_X9_copyFroma (l : Launch) (E : EV) (σ : Mem) (τ : Mem) (h : f_X9_copyFroma  σ = some τ) : MV TC l E yX9_copyFrom cX9_copyFrom 2 none 1 60 [.ref (E.2.1 (3)), .ref (E.2.1 (22))] σ τ := by
  refine mt_start RX9 (by decide +kernel) rfl (Nat.le_of_ble_eq_true rfl) (fun p e s m args below meth c ls C hw hl => ?_)
  replace hl : lv_has ls 2 [(0, .ref (E.2.1 (3))), (1, .ref (E.2.1 (22)))] := hl
  obtain ⟨hx, hb, hml, hown, hts, hK, hSt, hlk, hr⟩ := id C
  unfold f_X9_copyFroma at h
  refine lv_aload_n hx hb dX9_copyFrom_0 rfl (lv_at hl 1 rfl) ?_
  refine gf_9_0 C hw tC_22 kw_119 (c1 := 23) rfl dX9_copyFrom_1 ?_
  refine lv_iconst (v := 0) hx hb dX9_copyFrom_4 (by decide) ?_
  refine lv_aload_n hx hb dX9_copyFrom_5 rfl (lv_at hl 0 rfl) ?_
  refine gf_9_0 C hw tC_3 kw_119 (c1 := 4) rfl dX9_copyFrom_6 ?_
  refine lv_iconst (v := 0) hx hb dX9_copyFrom_9 (by decide) ?_
  refine lv_bipush (v := 120) hx hb dX9_copyFrom_10 (by decide) ?_
  obtain ⟨g_2, h⟩ := gd_at h
  obtain ⟨σ_1, eσ_1, h⟩ := lt_at h
  refine q_copyb C hw hl.1 kw_978 (Nat.le_of_ble_eq_true rfl) (Nat.le_of_ble_eq_true (by rfl)) (Nat.le_of_ble_eq_true rfl) tC_23 tC_4 rfl (by decide) g_2 eσ_1 dX9_copyFrom_12 (fun H locs hw => ?_)
  refine lv_aload_n hx hb dX9_copyFrom_15 rfl (lv_at hl 0 rfl) ?_
  refine lv_aload_n hx hb dX9_copyFrom_16 rfl (lv_at hl 1 rfl) ?_
  refine gf_9_1 C hw tC_22 kw_120 dX9_copyFrom_17 ?_
  obtain ⟨σ_3, eσ_3, h⟩ := lt_at h
  refine pf_9_1 C hw tC_3 kw_120 eσ_3 dX9_copyFrom_20 (fun H locs hw => ?_)
  cases h
  exact q_vret C hw dX9_copyFrom_23
def f_X9_copyFromb (σ : Mem) : Option Mem :=
  gd (by8 (σ.1 4) 120) <|
  lt (cpI σ 4 23 120) fun σ_1 =>
  lt (sI σ_1 22 1 (gI σ_1 3 1)) fun σ_3 =>
  some σ_3
set_option maxHeartbeats 4000000 in
set_option maxRecDepth 100000 in
theorem m_X9_copyFromb (l : Launch) (E : EV) (σ : Mem) (τ : Mem) (h : f_X9_copyFromb  σ = some τ) : MV TC l E yX9_copyFrom cX9_copyFrom 2 none 1 60 [.ref (E.2.1 (22)), .ref (E.2.1 (3))] σ τ := by
  refine mt_start RX9 (by decide +kernel) rfl (Nat.le_of_ble_eq_true rfl) (fun p e s m args below meth c ls C hw hl => ?_)
  replace hl : lv_has ls 2 [(0, .ref (E.2.1 (22))), (1, .ref (E.2.1 (3)))] := hl
  obtain ⟨hx, hb, hml, hown, hts, hK, hSt, hlk, hr⟩ := id C
  unfold f_X9_copyFromb at h
  refine lv_aload_n hx hb dX9_copyFrom_0 rfl (lv_at hl 1 rfl) ?_
  refine gf_9_0 C hw tC_3 kw_119 (c1 := 4) rfl dX9_copyFrom_1 ?_
  refine lv_iconst (v := 0) hx hb dX9_copyFrom_4 (by decide) ?_
  refine lv_aload_n hx hb dX9_copyFrom_5 rfl (lv_at hl 0 rfl) ?_
  refine gf_9_0 C hw tC_22 kw_119 (c1 := 23) rfl dX9_copyFrom_6 ?_
  refine lv_iconst (v := 0) hx hb dX9_copyFrom_9 (by decide) ?_
  refine lv_bipush (v := 120) hx hb dX9_copyFrom_10 (by decide) ?_
  obtain ⟨g_2, h⟩ := gd_at h
  obtain ⟨σ_1, eσ_1, h⟩ := lt_at h
  refine q_copyb C hw hl.1 kw_978 (Nat.le_of_ble_eq_true rfl) (Nat.le_of_ble_eq_true (by rfl)) (Nat.le_of_ble_eq_true rfl) tC_4 tC_23 rfl (by decide) g_2 eσ_1 dX9_copyFrom_12 (fun H locs hw => ?_)
  refine lv_aload_n hx hb dX9_copyFrom_15 rfl (lv_at hl 0 rfl) ?_
  refine lv_aload_n hx hb dX9_copyFrom_16 rfl (lv_at hl 1 rfl) ?_
  refine gf_9_1 C hw tC_3 kw_120 dX9_copyFrom_17 ?_
  obtain ⟨σ_3, eσ_3, h⟩ := lt_at h
  refine pf_9_1 C hw tC_22 kw_120 eσ_3 dX9_copyFrom_20 (fun H locs hw => ?_)
  cases h
  exact q_vret C hw dX9_copyFrom_23
def f_X8_copyFroma (σ : Mem) : Option Mem :=
  lt (sI σ 2 0 (gI σ 21 0)) fun σ_1 =>
  bv (f_X9_copyFroma σ_1) fun σ_3 =>
  bv (f_X10_copyFroma σ_3) fun σ_6 =>
  bv (f_X2_copyFroma σ_6) fun σ_9 =>
  bv (f_X7_copyFroma σ_9) fun σ_12 =>
  bv (f_X1_copyFroma σ_12) fun σ_15 =>
  bv (f_X4_copyFroma σ_15) fun σ_18 =>
  some σ_18
set_option maxHeartbeats 4000000 in
set_option maxRecDepth 100000 in
theorem m_X8_copyFroma (l : Launch) (E : EV) (σ : Mem) (τ : Mem) (h : f_X8_copyFroma  σ = some τ) : MV TC l E yX8_copyFrom cX8_copyFrom 2 none 2 81 [.ref (E.2.1 (2)), .ref (E.2.1 (21))] σ τ := by
  refine mt_start RX8 (by decide +kernel) rfl (Nat.le_of_ble_eq_true rfl) (fun p e s m args below meth c ls C hw hl => ?_)
  replace hl : lv_has ls 2 [(0, .ref (E.2.1 (2))), (1, .ref (E.2.1 (21)))] := hl
  obtain ⟨hx, hb, hml, hown, hts, hK, hSt, hlk, hr⟩ := id C
  unfold f_X8_copyFroma at h
  refine lv_aload_n hx hb dX8_copyFrom_0 rfl (lv_at hl 0 rfl) ?_
  refine lv_aload_n hx hb dX8_copyFrom_1 rfl (lv_at hl 1 rfl) ?_
  refine gf_8_0 C hw tC_21 kw_241 dX8_copyFrom_2 ?_
  obtain ⟨σ_1, eσ_1, h⟩ := lt_at h
  refine pf_8_0 C hw tC_2 kw_241 eσ_1 dX8_copyFrom_5 (fun H locs hw => ?_)
  refine lv_aload_n hx hb dX8_copyFrom_8 rfl (lv_at hl 0 rfl) ?_
  refine gf_8_1 C hw tC_2 kw_243 (c1 := 3) rfl dX8_copyFrom_9 ?_
  refine lv_aload_n hx hb dX8_copyFrom_12 rfl (lv_at hl 1 rfl) ?_
  refine gf_8_1 C hw tC_21 kw_243 (c1 := 22) rfl dX8_copyFrom_13 ?_
  obtain ⟨σ_3, h_4, h⟩ := bv_at h
  refine q_afterV hw (q_runV C hw hl.1 (As := [.ref (E.2.1 (22))]) (rest := []) (m_X9_copyFroma l E  σ_1 σ_3 h_4) yq_X9_copyFrom tC_3 rfl rfl kw_974 ⟨Nat.le_of_ble_eq_true rfl, Nat.le_of_ble_eq_true rfl⟩ rfl (Nat.le_of_ble_eq_true rfl) ⟨Nat.zero_le _, Nat.zero_le _⟩ dX8_copyFrom_16) (fun H locs hw => ?_)
  refine lv_aload_n hx hb dX8_copyFrom_19 rfl (lv_at hl 0 rfl) ?_
  refine gf_8_2 C hw tC_2 kw_245 (c1 := 5) rfl dX8_copyFrom_20 ?_
  refine lv_aload_n hx hb dX8_copyFrom_23 rfl (lv_at hl 1 rfl) ?_
  refine gf_8_2 C hw tC_21 kw_245 (c1 := 24) rfl dX8_copyFrom_24 ?_
  obtain ⟨σ_6, h_7, h⟩ := bv_at h
  refine q_afterV hw (q_runV C hw hl.1 (As := [.ref (E.2.1 (24))]) (rest := []) (m_X10_copyFroma l E  σ_3 σ_6 h_7) yq_X10_copyFrom tC_5 rfl rfl kw_981 ⟨Nat.le_of_ble_eq_true rfl, Nat.le_of_ble_eq_true rfl⟩ rfl (Nat.le_of_ble_eq_true rfl) ⟨Nat.zero_le _, Nat.zero_le _⟩ dX8_copyFrom_27) (fun H locs hw => ?_)
  refine lv_aload_n hx hb dX8_copyFrom_30 rfl (lv_at hl 0 rfl) ?_
  refine gf_8_3 C hw tC_2 kw_247 (c1 := 7) rfl dX8_copyFrom_31 ?_
  refine lv_aload_n hx hb dX8_copyFrom_34 rfl (lv_at hl 1 rfl) ?_
  refine gf_8_3 C hw tC_21 kw_247 (c1 := 26) rfl dX8_copyFrom_35 ?_
  obtain ⟨σ_9, h_10, h⟩ := bv_at h
  refine q_afterV hw (q_runV C hw hl.1 (As := [.ref (E.2.1 (26))]) (rest := []) (m_X2_copyFroma l E  σ_6 σ_9 h_10) yq_X2_copyFrom tC_7 rfl rfl kw_986 ⟨Nat.le_of_ble_eq_true rfl, Nat.le_of_ble_eq_true rfl⟩ rfl (Nat.le_of_ble_eq_true rfl) ⟨Nat.zero_le _, Nat.zero_le _⟩ dX8_copyFrom_38) (fun H locs hw => ?_)
  refine lv_aload_n hx hb dX8_copyFrom_41 rfl (lv_at hl 0 rfl) ?_
  refine gf_8_4 C hw tC_2 kw_249 (c1 := 8) rfl dX8_copyFrom_42 ?_
  refine lv_aload_n hx hb dX8_copyFrom_45 rfl (lv_at hl 1 rfl) ?_
  refine gf_8_4 C hw tC_21 kw_249 (c1 := 27) rfl dX8_copyFrom_46 ?_
  obtain ⟨σ_12, h_13, h⟩ := bv_at h
  refine q_afterV hw (q_runV C hw hl.1 (As := [.ref (E.2.1 (27))]) (rest := []) (m_X7_copyFroma l E  σ_9 σ_12 h_13) yq_X7_copyFrom tC_8 rfl rfl kw_990 ⟨Nat.le_of_ble_eq_true rfl, Nat.le_of_ble_eq_true rfl⟩ rfl (Nat.le_of_ble_eq_true rfl) ⟨Nat.zero_le _, Nat.zero_le _⟩ dX8_copyFrom_49) (fun H locs hw => ?_)
  refine lv_aload_n hx hb dX8_copyFrom_52 rfl (lv_at hl 0 rfl) ?_
  refine gf_8_5 C hw tC_2 kw_251 (c1 := 13) rfl dX8_copyFrom_53 ?_
  refine lv_aload_n hx hb dX8_copyFrom_56 rfl (lv_at hl 1 rfl) ?_
  refine gf_8_5 C hw tC_21 kw_251 (c1 := 32) rfl dX8_copyFrom_57 ?_
  obtain ⟨σ_15, h_16, h⟩ := bv_at h
  refine q_afterV hw (q_runV C hw hl.1 (As := [.ref (E.2.1 (32))]) (rest := []) (m_X1_copyFroma l E  σ_12 σ_15 h_16) yq_X1_copyFrom tC_13 rfl rfl kw_995 ⟨Nat.le_of_ble_eq_true rfl, Nat.le_of_ble_eq_true rfl⟩ rfl (Nat.le_of_ble_eq_true rfl) ⟨Nat.zero_le _, Nat.zero_le _⟩ dX8_copyFrom_60) (fun H locs hw => ?_)
  refine lv_aload_n hx hb dX8_copyFrom_63 rfl (lv_at hl 0 rfl) ?_
  refine gf_8_6 C hw tC_2 kw_253 (c1 := 16) rfl dX8_copyFrom_64 ?_
  refine lv_aload_n hx hb dX8_copyFrom_67 rfl (lv_at hl 1 rfl) ?_
  refine gf_8_6 C hw tC_21 kw_253 (c1 := 35) rfl dX8_copyFrom_68 ?_
  obtain ⟨σ_18, h_19, h⟩ := bv_at h
  refine q_afterV hw (q_runV C hw hl.1 (As := [.ref (E.2.1 (35))]) (rest := []) (m_X4_copyFroma l E  σ_15 σ_18 h_19) yq_X4_copyFrom tC_16 rfl rfl kw_1000 ⟨Nat.le_of_ble_eq_true rfl, Nat.le_of_ble_eq_true rfl⟩ rfl (Nat.le_of_ble_eq_true rfl) ⟨Nat.zero_le _, Nat.zero_le _⟩ dX8_copyFrom_71) (fun H locs hw => ?_)
  cases h
  exact q_vret C hw dX8_copyFrom_74
def f_X8_copyFromb (σ : Mem) : Option Mem :=
  lt (sI σ 21 0 (gI σ 2 0)) fun σ_1 =>
  bv (f_X9_copyFromb σ_1) fun σ_3 =>
  bv (f_X10_copyFromb σ_3) fun σ_6 =>
  bv (f_X2_copyFromb σ_6) fun σ_9 =>
  bv (f_X7_copyFromb σ_9) fun σ_12 =>
  bv (f_X1_copyFromb σ_12) fun σ_15 =>
  bv (f_X4_copyFromb σ_15) fun σ_18 =>
  some σ_18
set_option maxHeartbeats 4000000 in
set_option maxRecDepth 100000 in
theorem m_X8_copyFromb (l : Launch) (E : EV) (σ : Mem) (τ : Mem) (h : f_X8_copyFromb  σ = some τ) : MV TC l E yX8_copyFrom cX8_copyFrom 2 none 2 81 [.ref (E.2.1 (21)), .ref (E.2.1 (2))] σ τ := by
  refine mt_start RX8 (by decide +kernel) rfl (Nat.le_of_ble_eq_true rfl) (fun p e s m args below meth c ls C hw hl => ?_)
  replace hl : lv_has ls 2 [(0, .ref (E.2.1 (21))), (1, .ref (E.2.1 (2)))] := hl
  obtain ⟨hx, hb, hml, hown, hts, hK, hSt, hlk, hr⟩ := id C
  unfold f_X8_copyFromb at h
  refine lv_aload_n hx hb dX8_copyFrom_0 rfl (lv_at hl 0 rfl) ?_
  refine lv_aload_n hx hb dX8_copyFrom_1 rfl (lv_at hl 1 rfl) ?_
  refine gf_8_0 C hw tC_2 kw_241 dX8_copyFrom_2 ?_
  obtain ⟨σ_1, eσ_1, h⟩ := lt_at h
  refine pf_8_0 C hw tC_21 kw_241 eσ_1 dX8_copyFrom_5 (fun H locs hw => ?_)
  refine lv_aload_n hx hb dX8_copyFrom_8 rfl (lv_at hl 0 rfl) ?_
  refine gf_8_1 C hw tC_21 kw_243 (c1 := 22) rfl dX8_copyFrom_9 ?_
  refine lv_aload_n hx hb dX8_copyFrom_12 rfl (lv_at hl 1 rfl) ?_
  refine gf_8_1 C hw tC_2 kw_243 (c1 := 3) rfl dX8_copyFrom_13 ?_
  obtain ⟨σ_3, h_4, h⟩ := bv_at h
  refine q_afterV hw (q_runV C hw hl.1 (As := [.ref (E.2.1 (3))]) (rest := []) (m_X9_copyFromb l E  σ_1 σ_3 h_4) yq_X9_copyFrom tC_22 rfl rfl kw_974 ⟨Nat.le_of_ble_eq_true rfl, Nat.le_of_ble_eq_true rfl⟩ rfl (Nat.le_of_ble_eq_true rfl) ⟨Nat.zero_le _, Nat.zero_le _⟩ dX8_copyFrom_16) (fun H locs hw => ?_)
  refine lv_aload_n hx hb dX8_copyFrom_19 rfl (lv_at hl 0 rfl) ?_
  refine gf_8_2 C hw tC_21 kw_245 (c1 := 24) rfl dX8_copyFrom_20 ?_
  refine lv_aload_n hx hb dX8_copyFrom_23 rfl (lv_at hl 1 rfl) ?_
  refine gf_8_2 C hw tC_2 kw_245 (c1 := 5) rfl dX8_copyFrom_24 ?_
  obtain ⟨σ_6, h_7, h⟩ := bv_at h
  refine q_afterV hw (q_runV C hw hl.1 (As := [.ref (E.2.1 (5))]) (rest := []) (m_X10_copyFromb l E  σ_3 σ_6 h_7) yq_X10_copyFrom tC_24 rfl rfl kw_981 ⟨Nat.le_of_ble_eq_true rfl, Nat.le_of_ble_eq_true rfl⟩ rfl (Nat.le_of_ble_eq_true rfl) ⟨Nat.zero_le _, Nat.zero_le _⟩ dX8_copyFrom_27) (fun H locs hw => ?_)
  refine lv_aload_n hx hb dX8_copyFrom_30 rfl (lv_at hl 0 rfl) ?_
  refine gf_8_3 C hw tC_21 kw_247 (c1 := 26) rfl dX8_copyFrom_31 ?_
  refine lv_aload_n hx hb dX8_copyFrom_34 rfl (lv_at hl 1 rfl) ?_
  refine gf_8_3 C hw tC_2 kw_247 (c1 := 7) rfl dX8_copyFrom_35 ?_
  obtain ⟨σ_9, h_10, h⟩ := bv_at h
  refine q_afterV hw (q_runV C hw hl.1 (As := [.ref (E.2.1 (7))]) (rest := []) (m_X2_copyFromb l E  σ_6 σ_9 h_10) yq_X2_copyFrom tC_26 rfl rfl kw_986 ⟨Nat.le_of_ble_eq_true rfl, Nat.le_of_ble_eq_true rfl⟩ rfl (Nat.le_of_ble_eq_true rfl) ⟨Nat.zero_le _, Nat.zero_le _⟩ dX8_copyFrom_38) (fun H locs hw => ?_)
  refine lv_aload_n hx hb dX8_copyFrom_41 rfl (lv_at hl 0 rfl) ?_
  refine gf_8_4 C hw tC_21 kw_249 (c1 := 27) rfl dX8_copyFrom_42 ?_
  refine lv_aload_n hx hb dX8_copyFrom_45 rfl (lv_at hl 1 rfl) ?_
  refine gf_8_4 C hw tC_2 kw_249 (c1 := 8) rfl dX8_copyFrom_46 ?_
  obtain ⟨σ_12, h_13, h⟩ := bv_at h
  refine q_afterV hw (q_runV C hw hl.1 (As := [.ref (E.2.1 (8))]) (rest := []) (m_X7_copyFromb l E  σ_9 σ_12 h_13) yq_X7_copyFrom tC_27 rfl rfl kw_990 ⟨Nat.le_of_ble_eq_true rfl, Nat.le_of_ble_eq_true rfl⟩ rfl (Nat.le_of_ble_eq_true rfl) ⟨Nat.zero_le _, Nat.zero_le _⟩ dX8_copyFrom_49) (fun H locs hw => ?_)
  refine lv_aload_n hx hb dX8_copyFrom_52 rfl (lv_at hl 0 rfl) ?_
  refine gf_8_5 C hw tC_21 kw_251 (c1 := 32) rfl dX8_copyFrom_53 ?_
  refine lv_aload_n hx hb dX8_copyFrom_56 rfl (lv_at hl 1 rfl) ?_
  refine gf_8_5 C hw tC_2 kw_251 (c1 := 13) rfl dX8_copyFrom_57 ?_
  obtain ⟨σ_15, h_16, h⟩ := bv_at h
  refine q_afterV hw (q_runV C hw hl.1 (As := [.ref (E.2.1 (13))]) (rest := []) (m_X1_copyFromb l E  σ_12 σ_15 h_16) yq_X1_copyFrom tC_32 rfl rfl kw_995 ⟨Nat.le_of_ble_eq_true rfl, Nat.le_of_ble_eq_true rfl⟩ rfl (Nat.le_of_ble_eq_true rfl) ⟨Nat.zero_le _, Nat.zero_le _⟩ dX8_copyFrom_60) (fun H locs hw => ?_)
  refine lv_aload_n hx hb dX8_copyFrom_63 rfl (lv_at hl 0 rfl) ?_
  refine gf_8_6 C hw tC_21 kw_253 (c1 := 35) rfl dX8_copyFrom_64 ?_
  refine lv_aload_n hx hb dX8_copyFrom_67 rfl (lv_at hl 1 rfl) ?_
  refine gf_8_6 C hw tC_2 kw_253 (c1 := 16) rfl dX8_copyFrom_68 ?_
  obtain ⟨σ_18, h_19, h⟩ := bv_at h
  refine q_afterV hw (q_runV C hw hl.1 (As := [.ref (E.2.1 (16))]) (rest := []) (m_X4_copyFromb l E  σ_15 σ_18 h_19) yq_X4_copyFrom tC_35 rfl rfl kw_1000 ⟨Nat.le_of_ble_eq_true rfl, Nat.le_of_ble_eq_true rfl⟩ rfl (Nat.le_of_ble_eq_true rfl) ⟨Nat.zero_le _, Nat.zero_le _⟩ dX8_copyFrom_71) (fun H locs hw => ?_)
  cases h
  exact q_vret C hw dX8_copyFrom_74
def f_X9_append_5 (k5 : Int64 → Int32 → Mem → Option Mem) (x1 : Int64) (x4 : Int32) (σ : Mem) : Option Mem :=
  if x4 < 0 then
    (some σ)
  else
    if (120 : Int32) ≤ (gI σ 3 1) then
      (some σ)
    else
      gd (ib (gI σ 3 1) 120) <|
      lt (sI σ 4 (gI σ 3 1).toNatClampNeg (((((x1.toUInt64 >>> (((8 : Int32) * x4).toInt64.toUInt64 &&& Int64.toUInt64 63)).toInt64).toInt32).toInt8.toInt32).toInt8.toInt32)) fun σ_4 =>
      lt (sI σ_4 3 1 ((gI σ_4 3 1) + (1 : Int32))) fun σ_6 =>
      lt (x4 + (-1 : Int32)) fun x4_7 =>
      k5 x1 x4_7 σ_6
def f_X9_append (p1 : Int64) (p3 : Int32) (σ : Mem) : Option Mem :=
  lt (p3 - (1 : Int32)) fun x4_1 =>
  fx3 (f_X9_append_5) FU p1 x4_1 σ
set_option maxHeartbeats 4000000 in
set_option maxRecDepth 100000 in
theorem w_X9_append_5 {p : Program} {l : Launch} {e : Env} {s : State} {m : MethodId} {args : Array Value} {below : List Frame} {meth : Method} {c : Code} {E : EV} {τ : Mem} (C : Cx E p s m args meth c cX9_append 5 none RX9) : ∀ (n : Nat) (x1 : Int64) (x4 : Int32) (σ : Mem) (H : Heap) (locs : List Loc) (ls : Array Slot) (hw : Wd TC E σ s H locs) (hl : lv_has ls 5 [(0, .ref (E.2.1 (3))), (1, .long x1), (4, .int x4)]) (h : fx3 (f_X9_append_5) n x1 x4 σ = some τ), W p l e { frames := 0, cells := 0, slots := 0, locals := 0 } s m args below meth c H locs 0 0 (MQ below (QV TC E τ) args s 0 0 E.2.2.1) (F0 m 5 ls []) := by
  obtain ⟨hx, hb, hml, hown, hts, hK, hSt, hlk, hr⟩ := id C
  intro n
  induction n with
  | zero =>
    intro x1 x4 σ H locs ls hw hl h
    have h : none = some τ := h
    cases h
  | succ n hk5 =>
    intro x1 x4 σ H locs ls hw hl h
    replace h : f_X9_append_5 (fx3 (f_X9_append_5) n) x1 x4 σ = some τ := h
    unfold f_X9_append_5 at h
    refine lv_iload hx hb dX9_append_5 (lv_at hl 2 rfl) ?_
    refine lv_if_lt (tgt := 53) hx hb dX9_append_7 (by decide) (fun c_2 => ?_) (fun c_2 => ?_)
    · replace h := it_at h c_2
      cases h
      exact q_vret C hw dX9_append_53
    · replace h := ie_at h c_2
      refine lv_aload_n hx hb dX9_append_10 rfl (lv_at hl 0 rfl) ?_
      refine gf_9_1 C hw tC_3 kw_120 dX9_append_11 ?_
      refine lv_bipush (v := 120) hx hb dX9_append_14 (by decide) ?_
      refine lv_icmp_ge (tgt := 53) hx hb dX9_append_16 (by decide) (fun c_3 => ?_) (fun c_3 => ?_)
      · replace h := it_at h c_3
        cases h
        exact q_vret C hw dX9_append_53
      · replace h := ie_at h c_3
        refine lv_aload_n hx hb dX9_append_19 rfl (lv_at hl 0 rfl) ?_
        refine gf_9_0 C hw tC_3 kw_119 (c1 := 4) rfl dX9_append_20 ?_
        refine lv_aload_n hx hb dX9_append_23 rfl (lv_at hl 0 rfl) ?_
        refine gf_9_1 C hw tC_3 kw_120 dX9_append_24 ?_
        refine lv_lload_n hx hb dX9_append_27 rfl (lv_at hl 1 rfl) ?_
        refine lv_bipush (v := 8) hx hb dX9_append_28 (by decide) ?_
        refine lv_iload hx hb dX9_append_30 (lv_at hl 2 rfl) ?_
        refine lv_imul hx hb dX9_append_32 ?_
        refine lv_lushr hx hb dX9_append_33 rfl ?_
        refine lv_l2i hx hb dX9_append_34 rfl ?_
        refine lv_i2b hx hb dX9_append_35 rfl ?_
        obtain ⟨g_5, h⟩ := gd_at h
        obtain ⟨σ_4, eσ_4, h⟩ := lt_at h
        refine q_bast C hw tC_4 g_5 eσ_4 dX9_append_36 (fun H locs hw => ?_)
        refine lv_aload_n hx hb dX9_append_37 rfl (lv_at hl 0 rfl) ?_
        refine lv_dup hx hb dX9_append_38 rfl ?_
        refine gf_9_1 C hw tC_3 kw_120 dX9_append_39 ?_
        refine lv_iconst (v := 1) hx hb dX9_append_42 (by decide) ?_
        refine lv_iadd hx hb dX9_append_43 ?_
        obtain ⟨σ_6, eσ_6, h⟩ := lt_at h
        refine pf_9_1 C hw tC_3 kw_120 eσ_6 dX9_append_44 (fun H locs hw => ?_)
        obtain ⟨x4_7, ex4_7, h⟩ := lt_at h
        refine lv_iinc (v := x4_7) (lv' := [(4, .int x4_7), (0, .ref (E.2.1 (3))), (1, .long x1)]) hx hb dX9_append_47 hl (k := 2) rfl (by rw [ex4_7]; rfl) (by decide) rfl (fun ls hl => ?_)
        refine lv_goto (tgt := 5) hx hb dX9_append_50 (by decide) ?_
        exact hk5 _ _ _ _ _ _ hw (lv_sub hl [1, 2, 0] rfl) h
set_option maxHeartbeats 4000000 in
set_option maxRecDepth 100000 in
theorem m_X9_append (l : Launch) (E : EV) (p1 : Int64) (p3 : Int32) (σ : Mem) (τ : Mem) (h : f_X9_append p1 p3 σ = some τ) : MV TC l E yX9_append cX9_append 5 none 0 0 [.ref (E.2.1 (3)), .long p1, .int p3] σ τ := by
  refine mt_start RX9 (by decide +kernel) rfl (Nat.le_of_ble_eq_true rfl) (fun p e s m args below meth c ls C hw hl => ?_)
  replace hl : lv_has ls 5 [(0, .ref (E.2.1 (3))), (1, .long p1), (3, .int p3)] := hl
  obtain ⟨hx, hb, hml, hown, hts, hK, hSt, hlk, hr⟩ := id C
  unfold f_X9_append at h
  refine lv_iload_n hx hb dX9_append_0 rfl (lv_at hl 2 rfl) ?_
  refine lv_iconst (v := 1) hx hb dX9_append_1 (by decide) ?_
  refine lv_isub hx hb dX9_append_2 ?_
  obtain ⟨x4_1, ex4_1, h⟩ := lt_at h
  refine q_top ex4_1 ?_
  refine lv_istore (lv' := [(4, .int x4_1), (0, .ref (E.2.1 (3))), (1, .long p1), (3, .int p3)]) hx hb dX9_append_3 hl (by decide) rfl (fun ls hl => ?_)
  exact w_X9_append_5 C _ _ _ _ _ _ _ hw (lv_sub hl [1, 2, 0] rfl) h
