def f_X11_within (p0 : Int32) (p1 : Int32) (p2 : Int32) (σ : Mem) : Option (Int32 × Mem) :=
  if p0 < p1 then
    (some ((0 : Int32), σ))
  else
    if p2 < p0 then
      (some ((0 : Int32), σ))
    else
      some ((1 : Int32), σ)
set_option maxHeartbeats 4000000 in
set_option maxRecDepth 100000 in
theorem m_X11_within (l : Launch) (E : EV) (p0 : Int32) (p1 : Int32) (p2 : Int32) (σ : Mem) (rr : Int32) (τ : Mem) (h : f_X11_within p0 p1 p2 σ = some (rr, τ)) : MI TC l E yX11_within cX11_within 3 (some .boolean) 0 0 [.int p0, .int p1, .int p2] σ rr τ := by
  refine mt_start RX11 (by decide) rfl (Nat.le_of_ble_eq_true rfl) (fun p e s m args below meth c ls C hw hl => ?_)
  replace hl : lv_has ls 3 [(0, .int p0), (1, .int p1), (2, .int p2)] := hl
  obtain ⟨hx, hb, hml, hown, hts, hK, hSt, hlk, hr⟩ := id C
  unfold f_X11_within at h
  refine lv_iload_n hx hb dX11_within_0 rfl (lv_at hl 0 rfl) ?_
  refine lv_iload_n hx hb dX11_within_1 rfl (lv_at hl 1 rfl) ?_
  refine lv_icmp_lt (tgt := 14) hx hb dX11_within_2 (by decide) (fun c_1 => ?_) (fun c_1 => ?_)
  · replace h := it_at h c_1
    refine lv_iconst (v := 0) hx hb dX11_within_14 (by decide) ?_
    cases h
    exact q_zret C (by decide) hw dX11_within_15
  · replace h := ie_at h c_1
    refine lv_iload_n hx hb dX11_within_5 rfl (lv_at hl 0 rfl) ?_
    refine lv_iload_n hx hb dX11_within_6 rfl (lv_at hl 2 rfl) ?_
    refine lv_icmp_gt (tgt := 14) hx hb dX11_within_7 (by decide) (fun c_2 => ?_) (fun c_2 => ?_)
    · replace h := it_at h c_2
      refine lv_iconst (v := 0) hx hb dX11_within_14 (by decide) ?_
      cases h
      exact q_zret C (by decide) hw dX11_within_15
    · replace h := ie_at h c_2
      refine lv_iconst (v := 1) hx hb dX11_within_10 (by decide) ?_
      refine lv_goto (tgt := 15) hx hb dX11_within_11 (by decide) ?_
      cases h
      exact q_zret C (by decide) hw dX11_within_15
def f_X11_isWind (p0 : Int32) (σ : Mem) : Option (Int32 × Mem) :=
  bd (f_X11_within p0 (0 : Int32) (5 : Int32) σ) fun r_1 σ_2 =>
  gd (iz r_1) (some (r_1, σ_2))
set_option maxHeartbeats 4000000 in
set_option maxRecDepth 100000 in
theorem m_X11_isWind (l : Launch) (E : EV) (p0 : Int32) (σ : Mem) (rr : Int32) (τ : Mem) (h : f_X11_isWind p0 σ = some (rr, τ)) : MI TC l E yX11_isWind cX11_isWind 1 (some .boolean) 1 22 [.int p0] σ rr τ := by
  refine mt_start RX11 (by decide) rfl (Nat.le_of_ble_eq_true rfl) (fun p e s m args below meth c ls C hw hl => ?_)
  replace hl : lv_has ls 1 [(0, .int p0)] := hl
  obtain ⟨hx, hb, hml, hown, hts, hK, hSt, hlk, hr⟩ := id C
  unfold f_X11_isWind at h
  refine lv_iload_n hx hb dX11_isWind_0 rfl (lv_at hl 0 rfl) ?_
  refine lv_iconst (v := 0) hx hb dX11_isWind_1 (by decide) ?_
  refine lv_iconst (v := 5) hx hb dX11_isWind_2 (by decide) ?_
  obtain ⟨r_1, σ_2, h_3, h⟩ := bd_at h
  refine q_afterI hw (q_runS C hw hl.1 (As := [.int p0, .int (0 : Int32), .int (5 : Int32)]) (rest := []) (m_X11_within l E p0 (0 : Int32) (5 : Int32) σ r_1 σ_2 h_3) yq_X11_within kw_427 ⟨Nat.le_of_ble_eq_true rfl, Nat.le_of_ble_eq_true rfl⟩ rfl (Nat.le_of_ble_eq_true rfl) ⟨Nat.zero_le _, Nat.zero_le _⟩ dX11_isWind_3) (fun H locs hw => ?_)
  obtain ⟨g_4, h⟩ := gd_at h
  cases h
  exact q_zret C g_4 hw dX11_isWind_6
def f_X9_append_5 (k5 : Int64 → Int32 → Mem → Option Mem) (x1 : Int64) (x4 : Int32) (σ : Mem) : Option Mem :=
  if x4 < 0 then
    (some σ)
  else
    if (120 : Int32) ≤ (gI σ 3 1) then
      (some σ)
    else
      gd (ib (gI σ 3 1) 120) <|
      lt (sI σ 4 (gI σ 3 1).toNatClampNeg (((((x1.toUInt64 >>> (((8 : Int32) * x4).toInt64.toUInt64 &&& Int64.toUInt64 63)).toInt64).toInt32).toInt8.toInt32).toInt8.toInt32)) fun σ_4 =>
      lt (sI σ_4 3 1 ((gI σ_4 3 1) + (1 : Int32))) fun σ_6 =>
      lt (x4 + (-1 : Int32)) fun x4_7 =>
      k5 x1 x4_7 σ_6
def f_X9_append (p1 : Int64) (p3 : Int32) (σ : Mem) : Option Mem :=
  lt (p3 - (1 : Int32)) fun x4_1 =>
  fx3 (f_X9_append_5) FU p1 x4_1 σ
set_option maxHeartbeats 4000000 in
set_option maxRecDepth 100000 in
theorem w_X9_append_5 {p : Program} {l : Launch} {e : Env} {s : State} {m : MethodId} {args : Array Value} {below : List Frame} {meth : Method} {c : Code} {E : EV} {τ : Mem} (C : Cx E p s m args meth c cX9_append 5 none RX9) : ∀ (n : Nat) (x1 : Int64) (x4 : Int32) (σ : Mem) (H : Heap) (locs : List Loc) (ls : Array Slot) (hw : Wd TC E σ s H locs) (hl : lv_has ls 5 [(0, .ref (E.2.1 (3))), (1, .long x1), (4, .int x4)]) (h : fx3 (f_X9_append_5) n x1 x4 σ = some τ), W p l e { frames := 0, cells := 0, slots := 0, locals := 0 } s m args below meth c H locs 0 0 (MQ below (QV TC E τ) args s 0 0 E.2.2.1) (F0 m 5 ls []) := by
  obtain ⟨hx, hb, hml, hown, hts, hK, hSt, hlk, hr⟩ := id C
  intro n
  induction n with
  | zero =>
    intro x1 x4 σ H locs ls hw hl h
    have h : none = some τ := h
    cases h
  | succ n hk5 =>
    intro x1 x4 σ H locs ls hw hl h
    replace h : f_X9_append_5 (fx3 (f_X9_append_5) n) x1 x4 σ = some τ := h
    unfold f_X9_append_5 at h
    refine lv_iload hx hb dX9_append_5 (lv_at hl 2 rfl) ?_
    refine lv_if_lt (tgt := 53) hx hb dX9_append_7 (by decide) (fun c_2 => ?_) (fun c_2 => ?_)
    · replace h := it_at h c_2
      cases h
      exact q_vret C hw dX9_append_53
    · replace h := ie_at h c_2
      refine lv_aload_n hx hb dX9_append_10 rfl (lv_at hl 0 rfl) ?_
      refine gf_9_1 C hw tC_3 kw_120 dX9_append_11 ?_
      refine lv_bipush (v := 120) hx hb dX9_append_14 (by decide) ?_
      refine lv_icmp_ge (tgt := 53) hx hb dX9_append_16 (by decide) (fun c_3 => ?_) (fun c_3 => ?_)
      · replace h := it_at h c_3
        cases h
        exact q_vret C hw dX9_append_53
      · replace h := ie_at h c_3
        refine lv_aload_n hx hb dX9_append_19 rfl (lv_at hl 0 rfl) ?_
        refine gf_9_0 C hw tC_3 kw_119 (c1 := 4) rfl dX9_append_20 ?_
        refine lv_aload_n hx hb dX9_append_23 rfl (lv_at hl 0 rfl) ?_
        refine gf_9_1 C hw tC_3 kw_120 dX9_append_24 ?_
        refine lv_lload_n hx hb dX9_append_27 rfl (lv_at hl 1 rfl) ?_
        refine lv_bipush (v := 8) hx hb dX9_append_28 (by decide) ?_
        refine lv_iload hx hb dX9_append_30 (lv_at hl 2 rfl) ?_
        refine lv_imul hx hb dX9_append_32 ?_
        refine lv_lushr hx hb dX9_append_33 rfl ?_
        refine lv_l2i hx hb dX9_append_34 rfl ?_
        refine lv_i2b hx hb dX9_append_35 rfl ?_
        obtain ⟨g_5, h⟩ := gd_at h
        obtain ⟨σ_4, eσ_4, h⟩ := lt_at h
        refine q_bast C hw tC_4 g_5 eσ_4 dX9_append_36 (fun H locs hw => ?_)
        refine lv_aload_n hx hb dX9_append_37 rfl (lv_at hl 0 rfl) ?_
        refine lv_dup hx hb dX9_append_38 rfl ?_
        refine gf_9_1 C hw tC_3 kw_120 dX9_append_39 ?_
        refine lv_iconst (v := 1) hx hb dX9_append_42 (by decide) ?_
        refine lv_iadd hx hb dX9_append_43 ?_
        obtain ⟨σ_6, eσ_6, h⟩ := lt_at h
        refine pf_9_1 C hw tC_3 kw_120 eσ_6 dX9_append_44 (fun H locs hw => ?_)
        obtain ⟨x4_7, ex4_7, h⟩ := lt_at h
        refine lv_iinc (v := x4_7) (lv' := [(4, .int x4_7), (0, .ref (E.2.1 (3))), (1, .long x1)]) hx hb dX9_append_47 hl (k := 2) rfl (by rw [ex4_7]; rfl) (by decide) rfl (fun ls hl => ?_)
        refine lv_goto (tgt := 5) hx hb dX9_append_50 (by decide) ?_
        exact hk5 _ _ _ _ _ _ hw (lv_sub hl [1, 2, 0] rfl) h
set_option maxHeartbeats 4000000 in
set_option maxRecDepth 100000 in
theorem m_X9_append (l : Launch) (E : EV) (p1 : Int64) (p3 : Int32) (σ : Mem) (τ : Mem) (h : f_X9_append p1 p3 σ = some τ) : MV TC l E yX9_append cX9_append 5 none 0 0 [.ref (E.2.1 (3)), .long p1, .int p3] σ τ := by
  refine mt_start RX9 (by decide) rfl (Nat.le_of_ble_eq_true rfl) (fun p e s m args below meth c ls C hw hl => ?_)
  replace hl : lv_has ls 5 [(0, .ref (E.2.1 (3))), (1, .long p1), (3, .int p3)] := hl
  obtain ⟨hx, hb, hml, hown, hts, hK, hSt, hlk, hr⟩ := id C
  unfold f_X9_append at h
  refine lv_iload_n hx hb dX9_append_0 rfl (lv_at hl 2 rfl) ?_
  refine lv_iconst (v := 1) hx hb dX9_append_1 (by decide) ?_
  refine lv_isub hx hb dX9_append_2 ?_
  obtain ⟨x4_1, ex4_1, h⟩ := lt_at h
  refine q_top ex4_1 ?_
  refine lv_istore (lv' := [(4, .int x4_1), (0, .ref (E.2.1 (3))), (1, .long p1), (3, .int p3)]) hx hb dX9_append_3 hl (by decide) rfl (fun ls hl => ?_)
  exact w_X9_append_5 C _ _ _ _ _ _ _ hw (lv_sub hl [1, 2, 0] rfl) h
def f_X9_at (p1 : Int32) (σ : Mem) : Option (Int32 × Mem) :=
  if p1 < 0 then
    (some ((-1 : Int32), σ))
  else
    if (gI σ 3 1) ≤ p1 then
      (some ((-1 : Int32), σ))
    else
      gd (ib p1 120) <|
      some ((gI σ 4 p1.toNatClampNeg) &&& (255 : Int32), σ)
set_option maxHeartbeats 4000000 in
set_option maxRecDepth 100000 in
theorem m_X9_at (l : Launch) (E : EV) (p1 : Int32) (σ : Mem) (rr : Int32) (τ : Mem) (h : f_X9_at p1 σ = some (rr, τ)) : MI TC l E yX9_at cX9_at 2 (some .int) 0 0 [.ref (E.2.1 (3)), .int p1] σ rr τ := by
  refine mt_start RX9 (by decide) rfl (Nat.le_of_ble_eq_true rfl) (fun p e s m args below meth c ls C hw hl => ?_)
  replace hl : lv_has ls 2 [(0, .ref (E.2.1 (3))), (1, .int p1)] := hl
  obtain ⟨hx, hb, hml, hown, hts, hK, hSt, hlk, hr⟩ := id C
  unfold f_X9_at at h
  refine lv_iload_n hx hb dX9_at_0 rfl (lv_at hl 1 rfl) ?_
  refine lv_if_lt (tgt := 25) hx hb dX9_at_1 (by decide) (fun c_1 => ?_) (fun c_1 => ?_)
  · replace h := it_at h c_1
    refine lv_iconst (v := (-1)) hx hb dX9_at_25 (by decide) ?_
    cases h
    exact q_iret C hw dX9_at_26
  · replace h := ie_at h c_1
    refine lv_iload_n hx hb dX9_at_4 rfl (lv_at hl 1 rfl) ?_
    refine lv_aload_n hx hb dX9_at_5 rfl (lv_at hl 0 rfl) ?_
    refine gf_9_1 C hw tC_3 kw_120 dX9_at_6 ?_
    refine lv_icmp_ge (tgt := 25) hx hb dX9_at_9 (by decide) (fun c_2 => ?_) (fun c_2 => ?_)
    · replace h := it_at h c_2
      refine lv_iconst (v := (-1)) hx hb dX9_at_25 (by decide) ?_
      cases h
      exact q_iret C hw dX9_at_26
    · replace h := ie_at h c_2
      refine lv_aload_n hx hb dX9_at_12 rfl (lv_at hl 0 rfl) ?_
      refine gf_9_0 C hw tC_3 kw_119 (c1 := 4) rfl dX9_at_13 ?_
      refine lv_iload_n hx hb dX9_at_16 rfl (lv_at hl 1 rfl) ?_
      obtain ⟨g_3, h⟩ := gd_at h
      refine q_bald C hw tC_4 g_3 dX9_at_17 ?_
      refine lv_sipush (v := 255) hx hb dX9_at_18 (by decide) ?_
      refine lv_iand hx hb dX9_at_21 ?_
      refine lv_goto (tgt := 26) hx hb dX9_at_22 (by decide) ?_
      cases h
      exact q_iret C hw dX9_at_26
def f_X10_follow (p1 : Int32) (p2 : Int32) (p3 : Int32) (σ : Mem) : Option Mem :=
  lt ((p1 * (6 : Int32)) + p2) fun x4_1 =>
  if x4_1 < 0 then
    (some σ)
  else
    if (36 : Int32) ≤ x4_1 then
      (some σ)
    else
      gd (ib x4_1 36) <|
      lt (sI σ 6 x4_1.toNatClampNeg p3) fun σ_4 =>
      some σ_4
set_option maxHeartbeats 4000000 in
set_option maxRecDepth 100000 in
theorem m_X10_follow (l : Launch) (E : EV) (p1 : Int32) (p2 : Int32) (p3 : Int32) (σ : Mem) (τ : Mem) (h : f_X10_follow p1 p2 p3 σ = some τ) : MV TC l E yX10_follow cX10_follow 5 none 0 0 [.ref (E.2.1 (5)), .int p1, .int p2, .int p3] σ τ := by
  refine mt_start RX10 (by decide) rfl (Nat.le_of_ble_eq_true rfl) (fun p e s m args below meth c ls C hw hl => ?_)
  replace hl : lv_has ls 5 [(0, .ref (E.2.1 (5))), (1, .int p1), (2, .int p2), (3, .int p3)] := hl
  obtain ⟨hx, hb, hml, hown, hts, hK, hSt, hlk, hr⟩ := id C
  unfold f_X10_follow at h
  refine lv_iload_n hx hb dX10_follow_0 rfl (lv_at hl 1 rfl) ?_
  refine lv_bipush (v := 6) hx hb dX10_follow_1 (by decide) ?_
  refine lv_imul hx hb dX10_follow_3 ?_
  refine lv_iload_n hx hb dX10_follow_4 rfl (lv_at hl 2 rfl) ?_
  refine lv_iadd hx hb dX10_follow_5 ?_
  obtain ⟨x4_1, ex4_1, h⟩ := lt_at h
  refine q_top ex4_1 ?_
  refine lv_istore (lv' := [(4, .int x4_1), (0, .ref (E.2.1 (5))), (1, .int p1), (2, .int p2), (3, .int p3)]) hx hb dX10_follow_6 hl (by decide) rfl (fun ls hl => ?_)
  refine lv_iload hx hb dX10_follow_8 (lv_at hl 0 rfl) ?_
  refine lv_if_lt (tgt := 31) hx hb dX10_follow_10 (by decide) (fun c_2 => ?_) (fun c_2 => ?_)
  · replace h := it_at h c_2
    cases h
    exact q_vret C hw dX10_follow_31
  · replace h := ie_at h c_2
    refine lv_iload hx hb dX10_follow_13 (lv_at hl 0 rfl) ?_
    refine lv_aload_n hx hb dX10_follow_15 rfl (lv_at hl 1 rfl) ?_
    refine gf_10_0 C hw tC_5 kw_135 (c1 := 6) rfl dX10_follow_16 ?_
    refine q_alen C hw tC_6 (v := 36) rfl dX10_follow_19 ?_
    refine lv_icmp_ge (tgt := 31) hx hb dX10_follow_20 (by decide) (fun c_3 => ?_) (fun c_3 => ?_)
    · replace h := it_at h c_3
      cases h
      exact q_vret C hw dX10_follow_31
    · replace h := ie_at h c_3
      refine lv_aload_n hx hb dX10_follow_23 rfl (lv_at hl 1 rfl) ?_
      refine gf_10_0 C hw tC_5 kw_135 (c1 := 6) rfl dX10_follow_24 ?_
      refine lv_iload hx hb dX10_follow_27 (lv_at hl 0 rfl) ?_
      refine lv_iload_n hx hb dX10_follow_29 rfl (lv_at hl 4 rfl) ?_
      obtain ⟨g_5, h⟩ := gd_at h
      obtain ⟨σ_4, eσ_4, h⟩ := lt_at h
      refine q_iast C hw tC_6 g_5 eσ_4 dX10_follow_30 (fun H locs hw => ?_)
      cases h
      exact q_vret C hw dX10_follow_31
def f_X10_chanceOf (p1 : Int32) (p2 : Int32) (σ : Mem) : Option (Int32 × Mem) :=
  lt ((p1 * (6 : Int32)) + p2) fun x3_1 =>
  if x3_1 < 0 then
    (some ((0 : Int32), σ))
  else
    if (36 : Int32) ≤ x3_1 then
      (some ((0 : Int32), σ))
    else
      gd (ib x3_1 36) <|
      some (gI σ 6 x3_1.toNatClampNeg, σ)
set_option maxHeartbeats 4000000 in
set_option maxRecDepth 100000 in
theorem m_X10_chanceOf (l : Launch) (E : EV) (p1 : Int32) (p2 : Int32) (σ : Mem) (rr : Int32) (τ : Mem) (h : f_X10_chanceOf p1 p2 σ = some (rr, τ)) : MI TC l E yX10_chanceOf cX10_chanceOf 4 (some .int) 0 0 [.ref (E.2.1 (5)), .int p1, .int p2] σ rr τ := by
  refine mt_start RX10 (by decide) rfl (Nat.le_of_ble_eq_true rfl) (fun p e s m args below meth c ls C hw hl => ?_)
  replace hl : lv_has ls 4 [(0, .ref (E.2.1 (5))), (1, .int p1), (2, .int p2)] := hl
  obtain ⟨hx, hb, hml, hown, hts, hK, hSt, hlk, hr⟩ := id C
  unfold f_X10_chanceOf at h
  refine lv_iload_n hx hb dX10_chanceOf_0 rfl (lv_at hl 1 rfl) ?_
  refine lv_bipush (v := 6) hx hb dX10_chanceOf_1 (by decide) ?_
  refine lv_imul hx hb dX10_chanceOf_3 ?_
  refine lv_iload_n hx hb dX10_chanceOf_4 rfl (lv_at hl 2 rfl) ?_
  refine lv_iadd hx hb dX10_chanceOf_5 ?_
  obtain ⟨x3_1, ex3_1, h⟩ := lt_at h
  refine q_top ex3_1 ?_
  refine lv_istore_n (lv' := [(3, .int x3_1), (0, .ref (E.2.1 (5))), (1, .int p1), (2, .int p2)]) hx hb dX10_chanceOf_6 rfl hl (by decide) rfl (fun ls hl => ?_)
  refine lv_iload_n hx hb dX10_chanceOf_7 rfl (lv_at hl 0 rfl) ?_
  refine lv_if_lt (tgt := 29) hx hb dX10_chanceOf_8 (by decide) (fun c_2 => ?_) (fun c_2 => ?_)
  · replace h := it_at h c_2
    refine lv_iconst (v := 0) hx hb dX10_chanceOf_29 (by decide) ?_
    cases h
    exact q_iret C hw dX10_chanceOf_30
  · replace h := ie_at h c_2
    refine lv_iload_n hx hb dX10_chanceOf_11 rfl (lv_at hl 0 rfl) ?_
    refine lv_aload_n hx hb dX10_chanceOf_12 rfl (lv_at hl 1 rfl) ?_
    refine gf_10_0 C hw tC_5 kw_135 (c1 := 6) rfl dX10_chanceOf_13 ?_
    refine q_alen C hw tC_6 (v := 36) rfl dX10_chanceOf_16 ?_
    refine lv_icmp_ge (tgt := 29) hx hb dX10_chanceOf_17 (by decide) (fun c_3 => ?_) (fun c_3 => ?_)
    · replace h := it_at h c_3
      refine lv_iconst (v := 0) hx hb dX10_chanceOf_29 (by decide) ?_
      cases h
      exact q_iret C hw dX10_chanceOf_30
    · replace h := ie_at h c_3
      refine lv_aload_n hx hb dX10_chanceOf_20 rfl (lv_at hl 1 rfl) ?_
      refine gf_10_0 C hw tC_5 kw_135 (c1 := 6) rfl dX10_chanceOf_21 ?_
      refine lv_iload_n hx hb dX10_chanceOf_24 rfl (lv_at hl 0 rfl) ?_
      obtain ⟨g_4, h⟩ := gd_at h
      refine q_iald C hw tC_6 g_4 dX10_chanceOf_25 ?_
      refine lv_goto (tgt := 30) hx hb dX10_chanceOf_26 (by decide) ?_
      cases h
      exact q_iret C hw dX10_chanceOf_30
def f_X10_nextBy_48 (k8 : Int32 → Int32 → Int32 → Int32 → Int32 → Mem → Option (Int32 × Mem)) (x1 : Int32) (x2 : Int32) (x3 : Int32) (x4 : Int32) (x5 : Int32) (σ : Mem) : Option (Int32 × Mem) :=
  lt (x5 + (1 : Int32)) fun x5_8 =>
  k8 x1 x2 x3 x4 x5_8 σ
def f_X10_nextBy_8 (k8 : Int32 → Int32 → Int32 → Int32 → Int32 → Mem → Option (Int32 × Mem)) (x1 : Int32) (x2 : Int32) (x3 : Int32) (x4 : Int32) (x5 : Int32) (σ : Mem) : Option (Int32 × Mem) :=
  if (6 : Int32) ≤ x5 then
    (some (x3, σ))
  else
    bd (f_X10_chanceOf x1 x5 σ) fun r_2 σ_3 =>
    lt (x4 + r_2) fun x4_5 =>
    if x4_5 ≤ x2 then
      (if r_2 ≤ 0 then
        (f_X10_nextBy_48 k8 x1 x2 x3 x4_5 x5 σ_3)
      else
        f_X10_nextBy_48 k8 x1 x2 x5 x4_5 x5 σ_3)
    else
      some (x5, σ_3)
def f_X10_nextBy (p1 : Int32) (p2 : Int32) (σ : Mem) : Option (Int32 × Mem) :=
  fx6 (f_X10_nextBy_8) FU p1 p2 p1 (0 : Int32) (0 : Int32) σ
set_option maxHeartbeats 4000000 in
set_option maxRecDepth 100000 in
theorem w_X10_nextBy_48 {p : Program} {l : Launch} {e : Env} {s : State} {m : MethodId} {args : Array Value} {below : List Frame} {meth : Method} {c : Code} {E : EV} {rr : Int32} {τ : Mem} (C : Cx E p s m args meth c cX10_nextBy 7 (some .int) RX10) (k8 : Int32 → Int32 → Int32 → Int32 → Int32 → Mem → Option (Int32 × Mem)) (hk8 : ∀ (x1 : Int32) (x2 : Int32) (x3 : Int32) (x4 : Int32) (x5 : Int32) (σ : Mem) (H : Heap) (locs : List Loc) (ls : Array Slot) (hw : Wd TC E σ s H locs) (hl : lv_has ls 7 [(0, .ref (E.2.1 (5))), (1, .int x1), (2, .int x2), (3, .int x3), (4, .int x4), (5, .int x5)]) (h : k8 x1 x2 x3 x4 x5 σ = some (rr, τ)), W p l e { frames := 1, cells := 0, slots := 0, locals := 23 } s m args below meth c H locs 0 0 (MQ below (QI TC E rr τ) args s 0 0 E.2.2.1) (F0 m 8 ls [])) : ∀ (x1 : Int32) (x2 : Int32) (x3 : Int32) (x4 : Int32) (x5 : Int32) (σ : Mem) (H : Heap) (locs : List Loc) (ls : Array Slot) (hw : Wd TC E σ s H locs) (hl : lv_has ls 7 [(0, .ref (E.2.1 (5))), (1, .int x1), (2, .int x2), (3, .int x3), (4, .int x4), (5, .int x5)]) (h : f_X10_nextBy_48 k8 x1 x2 x3 x4 x5 σ = some (rr, τ)), W p l e { frames := 1, cells := 0, slots := 0, locals := 23 } s m args below meth c H locs 0 0 (MQ below (QI TC E rr τ) args s 0 0 E.2.2.1) (F0 m 48 ls []) := by
  obtain ⟨hx, hb, hml, hown, hts, hK, hSt, hlk, hr⟩ := id C
  intro x1 x2 x3 x4 x5 σ H locs ls hw hl h
  unfold f_X10_nextBy_48 at h
  obtain ⟨x5_8, ex5_8, h⟩ := lt_at h
  refine lv_iinc (v := x5_8) (lv' := [(5, .int x5_8), (0, .ref (E.2.1 (5))), (1, .int x1), (2, .int x2), (3, .int x3), (4, .int x4)]) hx hb dX10_nextBy_48 hl (k := 5) rfl (by rw [ex5_8]; rfl) (by decide) rfl (fun ls hl => ?_)
  refine lv_goto (tgt := 8) hx hb dX10_nextBy_51 (by decide) ?_
  exact hk8 _ _ _ _ _ _ _ _ _ hw (lv_sub hl [1, 2, 3, 4, 5, 0] rfl) h
set_option maxHeartbeats 4000000 in
set_option maxRecDepth 100000 in
theorem w_X10_nextBy_8 {p : Program} {l : Launch} {e : Env} {s : State} {m : MethodId} {args : Array Value} {below : List Frame} {meth : Method} {c : Code} {E : EV} {rr : Int32} {τ : Mem} (C : Cx E p s m args meth c cX10_nextBy 7 (some .int) RX10) : ∀ (n : Nat) (x1 : Int32) (x2 : Int32) (x3 : Int32) (x4 : Int32) (x5 : Int32) (σ : Mem) (H : Heap) (locs : List Loc) (ls : Array Slot) (hw : Wd TC E σ s H locs) (hl : lv_has ls 7 [(0, .ref (E.2.1 (5))), (1, .int x1), (2, .int x2), (3, .int x3), (4, .int x4), (5, .int x5)]) (h : fx6 (f_X10_nextBy_8) n x1 x2 x3 x4 x5 σ = some (rr, τ)), W p l e { frames := 1, cells := 0, slots := 0, locals := 23 } s m args below meth c H locs 0 0 (MQ below (QI TC E rr τ) args s 0 0 E.2.2.1) (F0 m 8 ls []) := by
  obtain ⟨hx, hb, hml, hown, hts, hK, hSt, hlk, hr⟩ := id C
  intro n
  induction n with
  | zero =>
    intro x1 x2 x3 x4 x5 σ H locs ls hw hl h
    have h : none = some (rr, τ) := h
    cases h
  | succ n hk8 =>
    intro x1 x2 x3 x4 x5 σ H locs ls hw hl h
    replace h : f_X10_nextBy_8 (fx6 (f_X10_nextBy_8) n) x1 x2 x3 x4 x5 σ = some (rr, τ) := h
    unfold f_X10_nextBy_8 at h
    refine lv_iload hx hb dX10_nextBy_8 (lv_at hl 5 rfl) ?_
    refine lv_bipush (v := 6) hx hb dX10_nextBy_10 (by decide) ?_
    refine lv_icmp_ge (tgt := 54) hx hb dX10_nextBy_12 (by decide) (fun c_1 => ?_) (fun c_1 => ?_)
    · replace h := it_at h c_1
      refine lv_iload_n hx hb dX10_nextBy_54 rfl (lv_at hl 3 rfl) ?_
      cases h
      exact q_iret C hw dX10_nextBy_55
    · replace h := ie_at h c_1
      refine lv_aload_n hx hb dX10_nextBy_15 rfl (lv_at hl 0 rfl) ?_
      refine lv_iload_n hx hb dX10_nextBy_16 rfl (lv_at hl 1 rfl) ?_
      refine lv_iload hx hb dX10_nextBy_17 (lv_at hl 5 rfl) ?_
      obtain ⟨r_2, σ_3, h_4, h⟩ := bd_at h
      refine q_afterI hw (q_runV C hw hl.1 (As := [.int x1, .int x5]) (rest := []) (m_X10_chanceOf l E x1 x5 σ r_2 σ_3 h_4) yq_X10_chanceOf tC_5 rfl rfl kw_925 ⟨Nat.le_of_ble_eq_true rfl, Nat.le_of_ble_eq_true rfl⟩ rfl (Nat.le_of_ble_eq_true rfl) ⟨Nat.zero_le _, Nat.zero_le _⟩ dX10_nextBy_19) (fun H locs hw => ?_)
      refine lv_istore (lv' := [(6, .int r_2), (0, .ref (E.2.1 (5))), (1, .int x1), (2, .int x2), (3, .int x3), (4, .int x4), (5, .int x5)]) hx hb dX10_nextBy_22 hl (by decide) rfl (fun ls hl => ?_)
      refine lv_iload hx hb dX10_nextBy_24 (lv_at hl 5 rfl) ?_
      refine lv_iload hx hb dX10_nextBy_26 (lv_at hl 0 rfl) ?_
      refine lv_iadd hx hb dX10_nextBy_28 ?_
      obtain ⟨x4_5, ex4_5, h⟩ := lt_at h
      refine q_top ex4_5 ?_
      refine lv_istore (lv' := [(4, .int x4_5), (6, .int r_2), (0, .ref (E.2.1 (5))), (1, .int x1), (2, .int x2), (3, .int x3), (5, .int x5)]) hx hb dX10_nextBy_29 hl (by decide) rfl (fun ls hl => ?_)
      refine lv_iload hx hb dX10_nextBy_31 (lv_at hl 0 rfl) ?_
      refine lv_iload_n hx hb dX10_nextBy_33 rfl (lv_at hl 4 rfl) ?_
      refine lv_icmp_le (tgt := 40) hx hb dX10_nextBy_34 (by decide) (fun c_6 => ?_) (fun c_6 => ?_)
      · replace h := it_at h c_6
        refine lv_iload hx hb dX10_nextBy_40 (lv_at hl 1 rfl) ?_
        refine lv_if_le (tgt := 48) hx hb dX10_nextBy_42 (by decide) (fun c_7 => ?_) (fun c_7 => ?_)
        · replace h := it_at h c_7
          exact w_X10_nextBy_48 C _ hk8 _ _ _ _ _ _ _ _ _ hw (lv_sub hl [2, 3, 4, 5, 0, 6] rfl) h
        · replace h := ie_at h c_7
          refine lv_iload hx hb dX10_nextBy_45 (lv_at hl 6 rfl) ?_
          refine lv_istore_n (lv' := [(3, .int x5), (4, .int x4_5), (6, .int r_2), (0, .ref (E.2.1 (5))), (1, .int x1), (2, .int x2), (5, .int x5)]) hx hb dX10_nextBy_47 rfl hl (by decide) rfl (fun ls hl => ?_)
          exact w_X10_nextBy_48 C _ hk8 _ _ _ _ _ _ _ _ _ hw (lv_sub hl [3, 4, 5, 0, 1, 6] rfl) h
      · replace h := ie_at h c_6
        refine lv_iload hx hb dX10_nextBy_37 (lv_at hl 6 rfl) ?_
        cases h
        exact q_iret C hw dX10_nextBy_39
set_option maxHeartbeats 4000000 in
set_option maxRecDepth 100000 in
theorem m_X10_nextBy (l : Launch) (E : EV) (p1 : Int32) (p2 : Int32) (σ : Mem) (rr : Int32) (τ : Mem) (h : f_X10_nextBy p1 p2 σ = some (rr, τ)) : MI TC l E yX10_nextBy cX10_nextBy 7 (some .int) 1 23 [.ref (E.2.1 (5)), .int p1, .int p2] σ rr τ := by
  refine mt_start RX10 (by decide) rfl (Nat.le_of_ble_eq_true rfl) (fun p e s m args below meth c ls C hw hl => ?_)
  replace hl : lv_has ls 7 [(0, .ref (E.2.1 (5))), (1, .int p1), (2, .int p2)] := hl
  obtain ⟨hx, hb, hml, hown, hts, hK, hSt, hlk, hr⟩ := id C
  unfold f_X10_nextBy at h
  refine lv_iload_n hx hb dX10_nextBy_0 rfl (lv_at hl 1 rfl) ?_
  refine lv_istore_n (lv' := [(3, .int p1), (0, .ref (E.2.1 (5))), (1, .int p1), (2, .int p2)]) hx hb dX10_nextBy_1 rfl hl (by decide) rfl (fun ls hl => ?_)
  refine lv_iconst (v := 0) hx hb dX10_nextBy_2 (by decide) ?_
  refine lv_istore (lv' := [(4, .int (0 : Int32)), (3, .int p1), (0, .ref (E.2.1 (5))), (1, .int p1), (2, .int p2)]) hx hb dX10_nextBy_3 hl (by decide) rfl (fun ls hl => ?_)
  refine lv_iconst (v := 0) hx hb dX10_nextBy_5 (by decide) ?_
  refine lv_istore (lv' := [(5, .int (0 : Int32)), (4, .int (0 : Int32)), (3, .int p1), (0, .ref (E.2.1 (5))), (1, .int p1), (2, .int p2)]) hx hb dX10_nextBy_6 hl (by decide) rfl (fun ls hl => ?_)
  exact w_X10_nextBy_8 C _ _ _ _ _ _ _ _ _ _ hw (lv_sub hl [3, 4, 5, 2, 1, 0] rfl) h
def f_X2_begin (p1 : Int32) (σ : Mem) : Option Mem :=
  lt (sI σ 7 0 p1) fun σ_1 =>
  lt (sI σ_1 7 1 (0 : Int32)) fun σ_2 =>
  lt (sI σ_2 7 2 (0 : Int32)) fun σ_3 =>
  lt (sI σ_3 7 3 (0 : Int32)) fun σ_4 =>
  lt (sI σ_4 7 4 (0 : Int32)) fun σ_5 =>
  lt (sI σ_5 7 5 (0 : Int32)) fun σ_6 =>
  some σ_6
set_option maxHeartbeats 4000000 in
set_option maxRecDepth 100000 in
theorem m_X2_begin (l : Launch) (E : EV) (p1 : Int32) (σ : Mem) (τ : Mem) (h : f_X2_begin p1 σ = some τ) : MV TC l E yX2_begin cX2_begin 2 none 0 0 [.ref (E.2.1 (7)), .int p1] σ τ := by
  refine mt_start RX2 (by decide) rfl (Nat.le_of_ble_eq_true rfl) (fun p e s m args below meth c ls C hw hl => ?_)
  replace hl : lv_has ls 2 [(0, .ref (E.2.1 (7))), (1, .int p1)] := hl
  obtain ⟨hx, hb, hml, hown, hts, hK, hSt, hlk, hr⟩ := id C
  unfold f_X2_begin at h
  refine lv_aload_n hx hb dX2_begin_0 rfl (lv_at hl 0 rfl) ?_
  refine lv_iload_n hx hb dX2_begin_1 rfl (lv_at hl 1 rfl) ?_
  obtain ⟨σ_1, eσ_1, h⟩ := lt_at h
  refine pf_2_0 C hw tC_7 kw_146 eσ_1 dX2_begin_2 (fun H locs hw => ?_)
  refine lv_aload_n hx hb dX2_begin_5 rfl (lv_at hl 0 rfl) ?_
  refine lv_iconst (v := 0) hx hb dX2_begin_6 (by decide) ?_
  obtain ⟨σ_2, eσ_2, h⟩ := lt_at h
  refine pf_2_1 C hw tC_7 kw_148 eσ_2 dX2_begin_7 (fun H locs hw => ?_)
  refine lv_aload_n hx hb dX2_begin_10 rfl (lv_at hl 0 rfl) ?_
  refine lv_iconst (v := 0) hx hb dX2_begin_11 (by decide) ?_
  obtain ⟨σ_3, eσ_3, h⟩ := lt_at h
  refine pf_2_2 C hw tC_7 kw_150 eσ_3 dX2_begin_12 (fun H locs hw => ?_)
  refine lv_aload_n hx hb dX2_begin_15 rfl (lv_at hl 0 rfl) ?_
  refine lv_iconst (v := 0) hx hb dX2_begin_16 (by decide) ?_
  obtain ⟨σ_4, eσ_4, h⟩ := lt_at h
  refine pf_2_3 C hw tC_7 kw_152 eσ_4 dX2_begin_17 (fun H locs hw => ?_)
  refine lv_aload_n hx hb dX2_begin_20 rfl (lv_at hl 0 rfl) ?_
  refine lv_iconst (v := 0) hx hb dX2_begin_21 (by decide) ?_
  obtain ⟨σ_5, eσ_5, h⟩ := lt_at h
  refine pf_2_4 C hw tC_7 kw_154 eσ_5 dX2_begin_22 (fun H locs hw => ?_)
  refine lv_aload_n hx hb dX2_begin_25 rfl (lv_at hl 0 rfl) ?_
  refine lv_iconst (v := 0) hx hb dX2_begin_26 (by decide) ?_
  obtain ⟨σ_6, eσ_6, h⟩ := lt_at h
  refine pf_2_5 C hw tC_7 kw_156 (by decide) eσ_6 dX2_begin_27 (fun H locs hw => ?_)
  cases h
  exact q_vret C hw dX2_begin_30
def f_X4_append_105 (x4 : Int32) (σ : Mem) : Option (Int32 × Mem) :=
  gd (ib x4 6) <|
  lt (sI σ 20 x4.toNatClampNeg (gI σ 16 4)) fun σ_19 =>
  lt (sI σ_19 16 4 ((gI σ_19 16 4) + (1 : Int32))) fun σ_21 =>
  some ((gI σ_21 16 4) - (1 : Int32), σ_21)
def f_X4_append_54 (k54 : Int32 → Int32 → Int32 → Mem → Option (Int32 × Mem)) (x2 : Int32) (x4 : Int32) (x5 : Int32) (σ : Mem) : Option (Int32 × Mem) :=
  if x5 ≤ 0 then
    (f_X4_append_105 x4 σ)
  else
    gd (ib (x5 - (1 : Int32)) 6) <|
    gd (ib (gI σ 20 (x5 - (1 : Int32)).toNatClampNeg) 6) <|
    if (gI σ 18 (gI σ 20 (x5 - (1 : Int32)).toNatClampNeg).toNatClampNeg) ≤ x2 then
      (f_X4_append_105 x4 σ)
    else
      gd (ib (x5 - (1 : Int32)) 6) <|
      gd (ib x5 6) <|
      lt (sI σ 20 x5.toNatClampNeg (gI σ 20 (x5 - (1 : Int32)).toNatClampNeg)) fun σ_15 =>
      lt (x5 - (1 : Int32)) fun x4_17 =>
      lt (x5 + (-1 : Int32)) fun x5_18 =>
      k54 x2 x4_17 x5_18 σ_15
def f_X4_append (p1 : Int32) (p2 : Int32) (p3 : Int32) (σ : Mem) : Option (Int32 × Mem) :=
  if (gI σ 16 4) < (6 : Int32) then
    (gd (ib (gI σ 16 4) 6) <|
    lt (sI σ 17 (gI σ 16 4).toNatClampNeg p1) fun σ_2 =>
    gd (ib (gI σ_2 16 4) 6) <|
    lt (sI σ_2 18 (gI σ_2 16 4).toNatClampNeg p2) fun σ_4 =>
    gd (ib (gI σ_4 16 4) 6) <|
    lt (sI σ_4 19 (gI σ_4 16 4).toNatClampNeg p3) fun σ_6 =>
    lt (gI σ_6 16 4) fun x4_8 =>
    lt (gI σ_6 16 4) fun x5_9 =>
    fx4 (f_X4_append_54) FU p2 x4_8 x5_9 σ_6)
  else
    some ((-4 : Int32), σ)
set_option maxHeartbeats 4000000 in
set_option maxRecDepth 100000 in
theorem w_X4_append_105 {p : Program} {l : Launch} {e : Env} {s : State} {m : MethodId} {args : Array Value} {below : List Frame} {meth : Method} {c : Code} {E : EV} {rr : Int32} {τ : Mem} (C : Cx E p s m args meth c cX4_append 6 (some .int) RX4) : ∀ (x4 : Int32) (σ : Mem) (H : Heap) (locs : List Loc) (ls : Array Slot) (hw : Wd TC E σ s H locs) (hl : lv_has ls 6 [(0, .ref (E.2.1 (16))), (4, .int x4)]) (h : f_X4_append_105 x4 σ = some (rr, τ)), W p l e { frames := 0, cells := 0, slots := 0, locals := 0 } s m args below meth c H locs 0 0 (MQ below (QI TC E rr τ) args s 0 0 E.2.2.1) (F0 m 105 ls []) := by
  obtain ⟨hx, hb, hml, hown, hts, hK, hSt, hlk, hr⟩ := id C
  intro x4 σ H locs ls hw hl h
  unfold f_X4_append_105 at h
  refine lv_aload_n hx hb dX4_append_105 rfl (lv_at hl 0 rfl) ?_
  refine gf_4_3 C hw tC_16 kw_227 (c1 := 20) rfl dX4_append_106 ?_
  refine lv_iload hx hb dX4_append_109 (lv_at hl 1 rfl) ?_
  refine lv_aload_n hx hb dX4_append_111 rfl (lv_at hl 0 rfl) ?_
  refine gf_4_4 C hw tC_16 kw_228 dX4_append_112 ?_
  obtain ⟨g_20, h⟩ := gd_at h
  obtain ⟨σ_19, eσ_19, h⟩ := lt_at h
  refine q_iast C hw tC_20 g_20 eσ_19 dX4_append_115 (fun H locs hw => ?_)
  refine lv_aload_n hx hb dX4_append_116 rfl (lv_at hl 0 rfl) ?_
  refine lv_dup hx hb dX4_append_117 rfl ?_
  refine gf_4_4 C hw tC_16 kw_228 dX4_append_118 ?_
  refine lv_iconst (v := 1) hx hb dX4_append_121 (by decide) ?_
  refine lv_iadd hx hb dX4_append_122 ?_
  obtain ⟨σ_21, eσ_21, h⟩ := lt_at h
  refine pf_4_4 C hw tC_16 kw_228 eσ_21 dX4_append_123 (fun H locs hw => ?_)
  refine lv_aload_n hx hb dX4_append_126 rfl (lv_at hl 0 rfl) ?_
  refine gf_4_4 C hw tC_16 kw_228 dX4_append_127 ?_
  refine lv_iconst (v := 1) hx hb dX4_append_130 (by decide) ?_
  refine lv_isub hx hb dX4_append_131 ?_
  cases h
  exact q_iret C hw dX4_append_132
set_option maxHeartbeats 4000000 in
set_option maxRecDepth 100000 in
theorem w_X4_append_54 {p : Program} {l : Launch} {e : Env} {s : State} {m : MethodId} {args : Array Value} {below : List Frame} {meth : Method} {c : Code} {E : EV} {rr : Int32} {τ : Mem} (C : Cx E p s m args meth c cX4_append 6 (some .int) RX4) : ∀ (n : Nat) (x2 : Int32) (x4 : Int32) (x5 : Int32) (σ : Mem) (H : Heap) (locs : List Loc) (ls : Array Slot) (hw : Wd TC E σ s H locs) (hl : lv_has ls 6 [(0, .ref (E.2.1 (16))), (2, .int x2), (4, .int x4), (5, .int x5)]) (h : fx4 (f_X4_append_54) n x2 x4 x5 σ = some (rr, τ)), W p l e { frames := 0, cells := 0, slots := 0, locals := 0 } s m args below meth c H locs 0 0 (MQ below (QI TC E rr τ) args s 0 0 E.2.2.1) (F0 m 54 ls []) := by
  obtain ⟨hx, hb, hml, hown, hts, hK, hSt, hlk, hr⟩ := id C
  intro n
  induction n with
  | zero =>
    intro x2 x4 x5 σ H locs ls hw hl h
    have h : none = some (rr, τ) := h
    cases h
  | succ n hk54 =>
    intro x2 x4 x5 σ H locs ls hw hl h
    replace h : f_X4_append_54 (fx4 (f_X4_append_54) n) x2 x4 x5 σ = some (rr, τ) := h
    unfold f_X4_append_54 at h
    refine lv_iload hx hb dX4_append_54 (lv_at hl 3 rfl) ?_
    refine lv_if_le (tgt := 105) hx hb dX4_append_56 (by decide) (fun c_10 => ?_) (fun c_10 => ?_)
    · replace h := it_at h c_10
      exact w_X4_append_105 C _ _ _ _ _ hw (lv_sub hl [0, 2] rfl) h
    · replace h := ie_at h c_10
      refine lv_aload_n hx hb dX4_append_59 rfl (lv_at hl 0 rfl) ?_
      refine gf_4_1 C hw tC_16 kw_225 (c1 := 18) rfl dX4_append_60 ?_
      refine lv_aload_n hx hb dX4_append_63 rfl (lv_at hl 0 rfl) ?_
      refine gf_4_3 C hw tC_16 kw_227 (c1 := 20) rfl dX4_append_64 ?_
      refine lv_iload hx hb dX4_append_67 (lv_at hl 3 rfl) ?_
      refine lv_iconst (v := 1) hx hb dX4_append_69 (by decide) ?_
      refine lv_isub hx hb dX4_append_70 ?_
      obtain ⟨g_11, h⟩ := gd_at h
      refine q_iald C hw tC_20 g_11 dX4_append_71 ?_
      obtain ⟨g_12, h⟩ := gd_at h
      refine q_iald C hw tC_18 g_12 dX4_append_72 ?_
      refine lv_iload_n hx hb dX4_append_73 rfl (lv_at hl 1 rfl) ?_
      refine lv_icmp_le (tgt := 105) hx hb dX4_append_74 (by decide) (fun c_13 => ?_) (fun c_13 => ?_)
      · replace h := it_at h c_13
        exact w_X4_append_105 C _ _ _ _ _ hw (lv_sub hl [0, 2] rfl) h
      · replace h := ie_at h c_13
        refine lv_aload_n hx hb dX4_append_77 rfl (lv_at hl 0 rfl) ?_
        refine gf_4_3 C hw tC_16 kw_227 (c1 := 20) rfl dX4_append_78 ?_
        refine lv_iload hx hb dX4_append_81 (lv_at hl 3 rfl) ?_
        refine lv_aload_n hx hb dX4_append_83 rfl (lv_at hl 0 rfl) ?_
        refine gf_4_3 C hw tC_16 kw_227 (c1 := 20) rfl dX4_append_84 ?_
        refine lv_iload hx hb dX4_append_87 (lv_at hl 3 rfl) ?_
        refine lv_iconst (v := 1) hx hb dX4_append_89 (by decide) ?_
        refine lv_isub hx hb dX4_append_90 ?_
        obtain ⟨g_14, h⟩ := gd_at h
        refine q_iald C hw tC_20 g_14 dX4_append_91 ?_
        obtain ⟨g_16, h⟩ := gd_at h
        obtain ⟨σ_15, eσ_15, h⟩ := lt_at h
        refine q_iast C hw tC_20 g_16 eσ_15 dX4_append_92 (fun H locs hw => ?_)
        refine lv_iload hx hb dX4_append_93 (lv_at hl 3 rfl) ?_
        refine lv_iconst (v := 1) hx hb dX4_append_95 (by decide) ?_
        refine lv_isub hx hb dX4_append_96 ?_
        obtain ⟨x4_17, ex4_17, h⟩ := lt_at h
        refine q_top ex4_17 ?_
        refine lv_istore (lv' := [(4, .int x4_17), (0, .ref (E.2.1 (16))), (2, .int x2), (5, .int x5)]) hx hb dX4_append_97 hl (by decide) rfl (fun ls hl => ?_)
        obtain ⟨x5_18, ex5_18, h⟩ := lt_at h
        refine lv_iinc (v := x5_18) (lv' := [(5, .int x5_18), (4, .int x4_17), (0, .ref (E.2.1 (16))), (2, .int x2)]) hx hb dX4_append_99 hl (k := 3) rfl (by rw [ex5_18]; rfl) (by decide) rfl (fun ls hl => ?_)
        refine lv_goto (tgt := 54) hx hb dX4_append_102 (by decide) ?_
        exact hk54 _ _ _ _ _ _ _ hw (lv_sub hl [2, 3, 1, 0] rfl) h
set_option maxHeartbeats 4000000 in
set_option maxRecDepth 100000 in
theorem m_X4_append (l : Launch) (E : EV) (p1 : Int32) (p2 : Int32) (p3 : Int32) (σ : Mem) (rr : Int32) (τ : Mem) (h : f_X4_append p1 p2 p3 σ = some (rr, τ)) : MI TC l E yX4_append cX4_append 6 (some .int) 0 0 [.ref (E.2.1 (16)), .int p1, .int p2, .int p3] σ rr τ := by
  refine mt_start RX4 (by decide) rfl (Nat.le_of_ble_eq_true rfl) (fun p e s m args below meth c ls C hw hl => ?_)
  replace hl : lv_has ls 6 [(0, .ref (E.2.1 (16))), (1, .int p1), (2, .int p2), (3, .int p3)] := hl
  obtain ⟨hx, hb, hml, hown, hts, hK, hSt, hlk, hr⟩ := id C
  unfold f_X4_append at h
  refine lv_aload_n hx hb dX4_append_0 rfl (lv_at hl 0 rfl) ?_
  refine gf_4_4 C hw tC_16 kw_228 dX4_append_1 ?_
  refine lv_bipush (v := 6) hx hb dX4_append_4 (by decide) ?_
  refine lv_icmp_lt (tgt := 12) hx hb dX4_append_6 (by decide) (fun c_1 => ?_) (fun c_1 => ?_)
  · replace h := it_at h c_1
    refine lv_aload_n hx hb dX4_append_12 rfl (lv_at hl 0 rfl) ?_
    refine gf_4_0 C hw tC_16 kw_224 (c1 := 17) rfl dX4_append_13 ?_
    refine lv_aload_n hx hb dX4_append_16 rfl (lv_at hl 0 rfl) ?_
    refine gf_4_4 C hw tC_16 kw_228 dX4_append_17 ?_
    refine lv_iload_n hx hb dX4_append_20 rfl (lv_at hl 1 rfl) ?_
    obtain ⟨g_3, h⟩ := gd_at h
    obtain ⟨σ_2, eσ_2, h⟩ := lt_at h
    refine q_iast C hw tC_17 g_3 eσ_2 dX4_append_21 (fun H locs hw => ?_)
    refine lv_aload_n hx hb dX4_append_22 rfl (lv_at hl 0 rfl) ?_
    refine gf_4_1 C hw tC_16 kw_225 (c1 := 18) rfl dX4_append_23 ?_
    refine lv_aload_n hx hb dX4_append_26 rfl (lv_at hl 0 rfl) ?_
    refine gf_4_4 C hw tC_16 kw_228 dX4_append_27 ?_
    refine lv_iload_n hx hb dX4_append_30 rfl (lv_at hl 2 rfl) ?_
    obtain ⟨g_5, h⟩ := gd_at h
    obtain ⟨σ_4, eσ_4, h⟩ := lt_at h
    refine q_iast C hw tC_18 g_5 eσ_4 dX4_append_31 (fun H locs hw => ?_)
    refine lv_aload_n hx hb dX4_append_32 rfl (lv_at hl 0 rfl) ?_
    refine gf_4_2 C hw tC_16 kw_226 (c1 := 19) rfl dX4_append_33 ?_
    refine lv_aload_n hx hb dX4_append_36 rfl (lv_at hl 0 rfl) ?_
    refine gf_4_4 C hw tC_16 kw_228 dX4_append_37 ?_
    refine lv_iload_n hx hb dX4_append_40 rfl (lv_at hl 3 rfl) ?_
    obtain ⟨g_7, h⟩ := gd_at h
    obtain ⟨σ_6, eσ_6, h⟩ := lt_at h
    refine q_iast C hw tC_19 g_7 eσ_6 dX4_append_41 (fun H locs hw => ?_)
    refine lv_aload_n hx hb dX4_append_42 rfl (lv_at hl 0 rfl) ?_
    refine gf_4_4 C hw tC_16 kw_228 dX4_append_43 ?_
    obtain ⟨x4_8, ex4_8, h⟩ := lt_at h
    refine q_top ex4_8 ?_
    refine lv_istore (lv' := [(4, .int x4_8), (0, .ref (E.2.1 (16))), (1, .int p1), (2, .int p2), (3, .int p3)]) hx hb dX4_append_46 hl (by decide) rfl (fun ls hl => ?_)
    refine lv_aload_n hx hb dX4_append_48 rfl (lv_at hl 1 rfl) ?_
    refine gf_4_4 C hw tC_16 kw_228 dX4_append_49 ?_
    obtain ⟨x5_9, ex5_9, h⟩ := lt_at h
    refine q_top ex5_9 ?_
    refine lv_istore (lv' := [(5, .int x5_9), (4, .int x4_8), (0, .ref (E.2.1 (16))), (1, .int p1), (2, .int p2), (3, .int p3)]) hx hb dX4_append_52 hl (by decide) rfl (fun ls hl => ?_)
    exact w_X4_append_54 C _ _ _ _ _ _ _ _ hw (lv_sub hl [2, 4, 1, 0] rfl) h
  · replace h := ie_at h c_1
    refine lv_bipush (v := (-4)) hx hb dX4_append_9 (by decide) ?_
    cases h
    exact q_iret C hw dX4_append_11
def f_X4_lateOf_63 (k7 : Int32 → Int32 → Int32 → Int32 → Mem → Option (Int32 × Mem)) (x1 : Int32) (x2 : Int32) (x3 : Int32) (x4 : Int32) (σ : Mem) : Option (Int32 × Mem) :=
  lt (x4 + (1 : Int32)) fun x4_10 =>
  k7 x1 x2 x3 x4_10 σ
def f_X4_lateOf_7 (k7 : Int32 → Int32 → Int32 → Int32 → Mem → Option (Int32 × Mem)) (x1 : Int32) (x2 : Int32) (x3 : Int32) (x4 : Int32) (σ : Mem) : Option (Int32 × Mem) :=
  if (gI σ 16 4) ≤ x4 then
    (some (x2, σ))
  else
    gd (ib x4 6) <|
    lt (gI σ 20 x4.toNatClampNeg) fun x5_3 =>
    if ((x1 >>> (x5_3 &&& 31)) &&& (1 : Int32)) = (1 : Int32) then
      (gd (ib x5_3 6) <|
      lt (x3 + (gI σ 17 x5_3.toNatClampNeg)) fun x3_6 =>
      gd (ib x5_3 6) <|
      if x3_6 ≤ (gI σ 18 x5_3.toNatClampNeg) then
        (f_X4_lateOf_63 k7 x1 x2 x3_6 x4 σ)
      else
        lt (x2 ||| ((1 : Int32) <<< (x5_3 &&& 31))) fun x2_9 =>
        f_X4_lateOf_63 k7 x1 x2_9 x3_6 x4 σ)
    else
      f_X4_lateOf_63 k7 x1 x2 x3 x4 σ
def f_X4_lateOf (p1 : Int32) (σ : Mem) : Option (Int32 × Mem) :=
  fx5 (f_X4_lateOf_7) FU p1 (0 : Int32) (0 : Int32) (0 : Int32) σ
set_option maxHeartbeats 4000000 in
set_option maxRecDepth 100000 in
theorem w_X4_lateOf_63 {p : Program} {l : Launch} {e : Env} {s : State} {m : MethodId} {args : Array Value} {below : List Frame} {meth : Method} {c : Code} {E : EV} {rr : Int32} {τ : Mem} (C : Cx E p s m args meth c cX4_lateOf 6 (some .int) RX4) (k7 : Int32 → Int32 → Int32 → Int32 → Mem → Option (Int32 × Mem)) (hk7 : ∀ (x1 : Int32) (x2 : Int32) (x3 : Int32) (x4 : Int32) (σ : Mem) (H : Heap) (locs : List Loc) (ls : Array Slot) (hw : Wd TC E σ s H locs) (hl : lv_has ls 6 [(0, .ref (E.2.1 (16))), (1, .int x1), (2, .int x2), (3, .int x3), (4, .int x4)]) (h : k7 x1 x2 x3 x4 σ = some (rr, τ)), W p l e { frames := 0, cells := 0, slots := 0, locals := 0 } s m args below meth c H locs 0 0 (MQ below (QI TC E rr τ) args s 0 0 E.2.2.1) (F0 m 7 ls [])) : ∀ (x1 : Int32) (x2 : Int32) (x3 : Int32) (x4 : Int32) (σ : Mem) (H : Heap) (locs : List Loc) (ls : Array Slot) (hw : Wd TC E σ s H locs) (hl : lv_has ls 6 [(0, .ref (E.2.1 (16))), (1, .int x1), (2, .int x2), (3, .int x3), (4, .int x4)]) (h : f_X4_lateOf_63 k7 x1 x2 x3 x4 σ = some (rr, τ)), W p l e { frames := 0, cells := 0, slots := 0, locals := 0 } s m args below meth c H locs 0 0 (MQ below (QI TC E rr τ) args s 0 0 E.2.2.1) (F0 m 63 ls []) := by
  obtain ⟨hx, hb, hml, hown, hts, hK, hSt, hlk, hr⟩ := id C
  intro x1 x2 x3 x4 σ H locs ls hw hl h
  unfold f_X4_lateOf_63 at h
  obtain ⟨x4_10, ex4_10, h⟩ := lt_at h
  refine lv_iinc (v := x4_10) (lv' := [(4, .int x4_10), (0, .ref (E.2.1 (16))), (1, .int x1), (2, .int x2), (3, .int x3)]) hx hb dX4_lateOf_63 hl (k := 4) rfl (by rw [ex4_10]; rfl) (by decide) rfl (fun ls hl => ?_)
  refine lv_goto (tgt := 7) hx hb dX4_lateOf_66 (by decide) ?_
  exact hk7 _ _ _ _ _ _ _ _ hw (lv_sub hl [1, 2, 3, 4, 0] rfl) h
set_option maxHeartbeats 4000000 in
set_option maxRecDepth 100000 in
theorem w_X4_lateOf_7 {p : Program} {l : Launch} {e : Env} {s : State} {m : MethodId} {args : Array Value} {below : List Frame} {meth : Method} {c : Code} {E : EV} {rr : Int32} {τ : Mem} (C : Cx E p s m args meth c cX4_lateOf 6 (some .int) RX4) : ∀ (n : Nat) (x1 : Int32) (x2 : Int32) (x3 : Int32) (x4 : Int32) (σ : Mem) (H : Heap) (locs : List Loc) (ls : Array Slot) (hw : Wd TC E σ s H locs) (hl : lv_has ls 6 [(0, .ref (E.2.1 (16))), (1, .int x1), (2, .int x2), (3, .int x3), (4, .int x4)]) (h : fx5 (f_X4_lateOf_7) n x1 x2 x3 x4 σ = some (rr, τ)), W p l e { frames := 0, cells := 0, slots := 0, locals := 0 } s m args below meth c H locs 0 0 (MQ below (QI TC E rr τ) args s 0 0 E.2.2.1) (F0 m 7 ls []) := by
  obtain ⟨hx, hb, hml, hown, hts, hK, hSt, hlk, hr⟩ := id C
  intro n
  induction n with
  | zero =>
    intro x1 x2 x3 x4 σ H locs ls hw hl h
    have h : none = some (rr, τ) := h
    cases h
  | succ n hk7 =>
    intro x1 x2 x3 x4 σ H locs ls hw hl h
    replace h : f_X4_lateOf_7 (fx5 (f_X4_lateOf_7) n) x1 x2 x3 x4 σ = some (rr, τ) := h
    unfold f_X4_lateOf_7 at h
    refine lv_iload hx hb dX4_lateOf_7 (lv_at hl 4 rfl) ?_
    refine lv_aload_n hx hb dX4_lateOf_9 rfl (lv_at hl 0 rfl) ?_
    refine gf_4_4 C hw tC_16 kw_228 dX4_lateOf_10 ?_
    refine lv_icmp_ge (tgt := 69) hx hb dX4_lateOf_13 (by decide) (fun c_1 => ?_) (fun c_1 => ?_)
    · replace h := it_at h c_1
      refine lv_iload_n hx hb dX4_lateOf_69 rfl (lv_at hl 2 rfl) ?_
      cases h
      exact q_iret C hw dX4_lateOf_70
    · replace h := ie_at h c_1
      refine lv_aload_n hx hb dX4_lateOf_16 rfl (lv_at hl 0 rfl) ?_
      refine gf_4_3 C hw tC_16 kw_227 (c1 := 20) rfl dX4_lateOf_17 ?_
      refine lv_iload hx hb dX4_lateOf_20 (lv_at hl 4 rfl) ?_
      obtain ⟨g_2, h⟩ := gd_at h
      refine q_iald C hw tC_20 g_2 dX4_lateOf_22 ?_
      obtain ⟨x5_3, ex5_3, h⟩ := lt_at h
      refine q_top ex5_3 ?_
      refine lv_istore (lv' := [(5, .int x5_3), (0, .ref (E.2.1 (16))), (1, .int x1), (2, .int x2), (3, .int x3), (4, .int x4)]) hx hb dX4_lateOf_23 hl (by decide) rfl (fun ls hl => ?_)
      refine lv_iload_n hx hb dX4_lateOf_25 rfl (lv_at hl 2 rfl) ?_
      refine lv_iload hx hb dX4_lateOf_26 (lv_at hl 0 rfl) ?_
      refine lv_ishr hx hb dX4_lateOf_28 ?_
      refine lv_iconst (v := 1) hx hb dX4_lateOf_29 (by decide) ?_
      refine lv_iand hx hb dX4_lateOf_30 ?_
      refine lv_iconst (v := 1) hx hb dX4_lateOf_31 (by decide) ?_
      refine lv_icmp_ne (tgt := 63) hx hb dX4_lateOf_32 (by decide) (fun c_4 => ?_) (fun c_4 => ?_)
      · replace h := ie_at h c_4
        exact w_X4_lateOf_63 C _ hk7 _ _ _ _ _ _ _ _ hw (lv_sub hl [1, 2, 3, 4, 5] rfl) h
      · replace h := it_at h c_4
        refine lv_iload_n hx hb dX4_lateOf_35 rfl (lv_at hl 4 rfl) ?_
        refine lv_aload_n hx hb dX4_lateOf_36 rfl (lv_at hl 1 rfl) ?_
        refine gf_4_0 C hw tC_16 kw_224 (c1 := 17) rfl dX4_lateOf_37 ?_
        refine lv_iload hx hb dX4_lateOf_40 (lv_at hl 0 rfl) ?_
        obtain ⟨g_5, h⟩ := gd_at h
        refine q_iald C hw tC_17 g_5 dX4_lateOf_42 ?_
        refine lv_iadd hx hb dX4_lateOf_43 ?_
        obtain ⟨x3_6, ex3_6, h⟩ := lt_at h
        refine q_top ex3_6 ?_
        refine lv_istore_n (lv' := [(3, .int x3_6), (5, .int x5_3), (0, .ref (E.2.1 (16))), (1, .int x1), (2, .int x2), (4, .int x4)]) hx hb dX4_lateOf_44 rfl hl (by decide) rfl (fun ls hl => ?_)
        refine lv_iload_n hx hb dX4_lateOf_45 rfl (lv_at hl 0 rfl) ?_
        refine lv_aload_n hx hb dX4_lateOf_46 rfl (lv_at hl 2 rfl) ?_
        refine gf_4_1 C hw tC_16 kw_225 (c1 := 18) rfl dX4_lateOf_47 ?_
        refine lv_iload hx hb dX4_lateOf_50 (lv_at hl 1 rfl) ?_
        obtain ⟨g_7, h⟩ := gd_at h
        refine q_iald C hw tC_18 g_7 dX4_lateOf_52 ?_
        refine lv_icmp_le (tgt := 63) hx hb dX4_lateOf_53 (by decide) (fun c_8 => ?_) (fun c_8 => ?_)
        · replace h := it_at h c_8
          exact w_X4_lateOf_63 C _ hk7 _ _ _ _ _ _ _ _ hw (lv_sub hl [2, 3, 4, 0, 5] rfl) h
        · replace h := ie_at h c_8
          refine lv_iload_n hx hb dX4_lateOf_56 rfl (lv_at hl 4 rfl) ?_
          refine lv_iconst (v := 1) hx hb dX4_lateOf_57 (by decide) ?_
          refine lv_iload hx hb dX4_lateOf_58 (lv_at hl 1 rfl) ?_
          refine lv_ishl hx hb dX4_lateOf_60 ?_
          refine lv_ior hx hb dX4_lateOf_61 ?_
          obtain ⟨x2_9, ex2_9, h⟩ := lt_at h
          refine q_top ex2_9 ?_
          refine lv_istore_n (lv' := [(2, .int x2_9), (3, .int x3_6), (5, .int x5_3), (0, .ref (E.2.1 (16))), (1, .int x1), (4, .int x4)]) hx hb dX4_lateOf_62 rfl hl (by decide) rfl (fun ls hl => ?_)
          exact w_X4_lateOf_63 C _ hk7 _ _ _ _ _ _ _ _ hw (lv_sub hl [3, 4, 0, 1, 5] rfl) h
set_option maxHeartbeats 4000000 in
set_option maxRecDepth 100000 in
theorem m_X4_lateOf (l : Launch) (E : EV) (p1 : Int32) (σ : Mem) (rr : Int32) (τ : Mem) (h : f_X4_lateOf p1 σ = some (rr, τ)) : MI TC l E yX4_lateOf cX4_lateOf 6 (some .int) 0 0 [.ref (E.2.1 (16)), .int p1] σ rr τ := by
  refine mt_start RX4 (by decide) rfl (Nat.le_of_ble_eq_true rfl) (fun p e s m args below meth c ls C hw hl => ?_)
  replace hl : lv_has ls 6 [(0, .ref (E.2.1 (16))), (1, .int p1)] := hl
  obtain ⟨hx, hb, hml, hown, hts, hK, hSt, hlk, hr⟩ := id C
  unfold f_X4_lateOf at h
  refine lv_iconst (v := 0) hx hb dX4_lateOf_0 (by decide) ?_
  refine lv_istore_n (lv' := [(2, .int (0 : Int32)), (0, .ref (E.2.1 (16))), (1, .int p1)]) hx hb dX4_lateOf_1 rfl hl (by decide) rfl (fun ls hl => ?_)
  refine lv_iconst (v := 0) hx hb dX4_lateOf_2 (by decide) ?_
  refine lv_istore_n (lv' := [(3, .int (0 : Int32)), (2, .int (0 : Int32)), (0, .ref (E.2.1 (16))), (1, .int p1)]) hx hb dX4_lateOf_3 rfl hl (by decide) rfl (fun ls hl => ?_)
  refine lv_iconst (v := 0) hx hb dX4_lateOf_4 (by decide) ?_
  refine lv_istore (lv' := [(4, .int (0 : Int32)), (3, .int (0 : Int32)), (2, .int (0 : Int32)), (0, .ref (E.2.1 (16))), (1, .int p1)]) hx hb dX4_lateOf_5 hl (by decide) rfl (fun ls hl => ?_)
  exact w_X4_lateOf_7 C _ _ _ _ _ _ _ _ _ hw (lv_sub hl [3, 4, 2, 1, 0] rfl) h
