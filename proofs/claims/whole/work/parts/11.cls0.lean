def f_J7_fill_53178_5 (o : Nat) (k5 : Int32 → Int32 → Int32 → Mem → Option Mem) (x1 : Int32) (x2 : Int32) (x3 : Int32) (σ : Mem) : Option Mem :=
  if x3 ≤ x2 then
    (some σ)
  else
    gd (ib x2 4800) <|
    lt (sI σ (o + 6) x2.toNatClampNeg x1) fun σ_2 =>
    lt (x2 + (1 : Int32)) fun x2_4 =>
    k5 x1 x2_4 x3 σ_2
def f_J7_fill_53178 (o : Nat) (p1 : Int32) (σ : Mem) : Option Mem :=
  fx4 (f_J7_fill_53178_5 o) FU p1 (0 : Int32) (4800 : Int32) σ
set_option maxHeartbeats 4000000 in
set_option maxRecDepth 100000 in
theorem w_J7_fill_53178_5 {p : Program} {l : Launch} {e : Env} {s : State} {m : MethodId} {args : Array Value} {below : List Frame} {meth : Method} {c : Code} {E : EV} {τ : Mem} (C : Cx E p s m args meth c cJ7_fill_53178 4 none RJ7) (o : Nat) (ho : MO o) : ∀ (n : Nat) (x1 : Int32) (x2 : Int32) (x3 : Int32) (σ : Mem) (H : Heap) (locs : List Loc) (ls : Array Slot) (hw : Wd TC E σ s H locs) (hl : lv_has ls 4 [(0, .ref (E.2.1 (o + 6))), (1, .int x1), (2, .int x2), (3, .int x3)]) (h : fx4 (f_J7_fill_53178_5 o) n x1 x2 x3 σ = some τ), W p l e { frames := 0, cells := 0, slots := 0, locals := 0 } s m args below meth c H locs 0 0 (MQ below (QV TC E τ) args s 0 0 E.2.2.1) (F0 m 5 ls []) := by
  obtain ⟨hx, hb, hml, hown, hts, hK, hSt, hlk, hr⟩ := id C
  intro n
  induction n with
  | zero =>
    intro x1 x2 x3 σ H locs ls hw hl h
    have h : none = some τ := h
    cases h
  | succ n hk5 =>
    intro x1 x2 x3 σ H locs ls hw hl h
    replace h : f_J7_fill_53178_5 o (fx4 (f_J7_fill_53178_5 o) n) x1 x2 x3 σ = some τ := h
    unfold f_J7_fill_53178_5 at h
    refine lv_iload_n hx hb dJ7_fill_53178_5 rfl (lv_at hl 2 rfl) ?_
    refine lv_iload_n hx hb dJ7_fill_53178_6 rfl (lv_at hl 3 rfl) ?_
    refine lv_icmp_ge (tgt := 20) hx hb dJ7_fill_53178_7 (by decide) (fun c_1 => ?_) (fun c_1 => ?_)
    · replace h := it_at h c_1
      cases h
      exact q_vret C hw dJ7_fill_53178_20
    · replace h := ie_at h c_1
      refine lv_aload_n hx hb dJ7_fill_53178_10 rfl (lv_at hl 0 rfl) ?_
      refine lv_iload_n hx hb dJ7_fill_53178_11 rfl (lv_at hl 2 rfl) ?_
      refine lv_iload_n hx hb dJ7_fill_53178_12 rfl (lv_at hl 1 rfl) ?_
      obtain ⟨g_3, h⟩ := gd_at h
      obtain ⟨σ_2, eσ_2, h⟩ := lt_at h
      refine q_iast C hw (mo_T ho).2.2.2.2.2.2 g_3 eσ_2 dJ7_fill_53178_13 (fun H locs hw => ?_)
      obtain ⟨x2_4, ex2_4, h⟩ := lt_at h
      refine lv_iinc (v := x2_4) (lv' := [(2, .int x2_4), (0, .ref (E.2.1 (o + 6))), (1, .int x1), (3, .int x3)]) hx hb dJ7_fill_53178_14 hl (k := 2) rfl (by rw [ex2_4]; rfl) (by decide) rfl (fun ls hl => ?_)
      refine lv_goto (tgt := 5) hx hb dJ7_fill_53178_17 (by decide) ?_
      exact hk5 _ _ _ _ _ _ _ hw (lv_sub hl [1, 2, 0, 3] rfl) h
set_option maxHeartbeats 4000000 in
set_option maxRecDepth 100000 in
theorem m_J7_fill_53178 (l : Launch) (E : EV) (o : Nat) (ho : MO o) (p1 : Int32) (σ : Mem) (τ : Mem) (h : f_J7_fill_53178 o p1 σ = some τ) : MV TC l E yJ7_fill_53178 cJ7_fill_53178 4 none 0 0 [.ref (E.2.1 (o + 6)), .int p1] σ τ := by
  refine mt_start RJ7 (by decide +kernel) rfl (Nat.le_of_ble_eq_true rfl) (fun p e s m args below meth c ls C hw hl => ?_)
  replace hl : lv_has ls 4 [(0, .ref (E.2.1 (o + 6))), (1, .int p1)] := hl
  obtain ⟨hx, hb, hml, hown, hts, hK, hSt, hlk, hr⟩ := id C
  unfold f_J7_fill_53178 at h
  refine lv_iconst (v := 0) hx hb dJ7_fill_53178_0 (by decide) ?_
  refine lv_istore_n (lv' := [(2, .int (0 : Int32)), (0, .ref (E.2.1 (o + 6))), (1, .int p1)]) hx hb dJ7_fill_53178_1 rfl hl (by decide) rfl (fun ls hl => ?_)
  refine lv_aload_n hx hb dJ7_fill_53178_2 rfl (lv_at hl 1 rfl) ?_
  refine q_alen C hw (mo_T ho).2.2.2.2.2.2 (v := 4800) rfl dJ7_fill_53178_3 ?_
  refine lv_istore_n (lv' := [(3, .int (4800 : Int32)), (2, .int (0 : Int32)), (0, .ref (E.2.1 (o + 6))), (1, .int p1)]) hx hb dJ7_fill_53178_4 rfl hl (by decide) rfl (fun ls hl => ?_)
  exact w_J7_fill_53178_5 C o ho _ _ _ _ _ _ _ _ hw (lv_sub hl [2, 3, 1, 0] rfl) h
def f_X3_clear (o : Nat) (σ : Mem) : Option Mem :=
  bv (f_J7_fill_53178 o (0 : Int32) σ) fun σ_2 =>
  lt (sI σ_2 o 6 (0 : Int32)) fun σ_4 =>
  lt (sI σ_4 o 7 (0 : Int32)) fun σ_5 =>
  lt (sI σ_5 o 8 (0 : Int32)) fun σ_6 =>
  lt (sI σ_6 o 9 (99 : Int32)) fun σ_7 =>
  lt (sI σ_7 o 10 (99 : Int32)) fun σ_8 =>
  some σ_8
set_option maxHeartbeats 4000000 in
set_option maxRecDepth 100000 in
theorem m_X3_clear (l : Launch) (E : EV) (o : Nat) (ho : MO o) (σ : Mem) (τ : Mem) (h : f_X3_clear o σ = some τ) : MV TC l E yX3_clear cX3_clear 1 none 1 23 [.ref (E.2.1 o)] σ τ := by
  refine mt_start RX3 (by decide +kernel) rfl (Nat.le_of_ble_eq_true rfl) (fun p e s m args below meth c ls C hw hl => ?_)
  replace hl : lv_has ls 1 [(0, .ref (E.2.1 o))] := hl
  obtain ⟨hx, hb, hml, hown, hts, hK, hSt, hlk, hr⟩ := id C
  unfold f_X3_clear at h
  refine lv_aload_n hx hb dX3_clear_0 rfl (lv_at hl 0 rfl) ?_
  refine gf_3_5 C hw (mo_T ho).1 kw_372 (c1 := (o + 6)) rfl dX3_clear_1 ?_
  refine lv_iconst (v := 0) hx hb dX3_clear_4 (by decide) ?_
  obtain ⟨σ_2, h_3, h⟩ := bv_at h
  refine q_afterV hw (q_runS C hw hl.1 (As := [.ref (E.2.1 (o + 6)), .int (0 : Int32)]) (rest := []) (m_J7_fill_53178 l E o ho (0 : Int32) σ σ_2 h_3) yq_J7_fill_53178 kw_446 ⟨Nat.le_of_ble_eq_true rfl, Nat.le_of_ble_eq_true rfl⟩ rfl (Nat.le_of_ble_eq_true rfl) ⟨Nat.zero_le _, Nat.zero_le _⟩ dX3_clear_5) (fun H locs hw => ?_)
  refine lv_aload_n hx hb dX3_clear_8 rfl (lv_at hl 0 rfl) ?_
  refine lv_iconst (v := 0) hx hb dX3_clear_9 (by decide) ?_
  obtain ⟨σ_4, eσ_4, h⟩ := lt_at h
  refine pf_3_6 C hw (mo_T ho).1 kw_373 eσ_4 dX3_clear_10 (fun H locs hw => ?_)
  refine lv_aload_n hx hb dX3_clear_13 rfl (lv_at hl 0 rfl) ?_
  refine lv_iconst (v := 0) hx hb dX3_clear_14 (by decide) ?_
  obtain ⟨σ_5, eσ_5, h⟩ := lt_at h
  refine pf_3_7 C hw (mo_T ho).1 kw_374 eσ_5 dX3_clear_15 (fun H locs hw => ?_)
  refine lv_aload_n hx hb dX3_clear_18 rfl (lv_at hl 0 rfl) ?_
  refine lv_iconst (v := 0) hx hb dX3_clear_19 (by decide) ?_
  obtain ⟨σ_6, eσ_6, h⟩ := lt_at h
  refine pf_3_8 C hw (mo_T ho).1 kw_375 eσ_6 dX3_clear_20 (fun H locs hw => ?_)
  refine lv_aload_n hx hb dX3_clear_23 rfl (lv_at hl 0 rfl) ?_
  refine lv_bipush (v := 99) hx hb dX3_clear_24 (by decide) ?_
  obtain ⟨σ_7, eσ_7, h⟩ := lt_at h
  refine pf_3_9 C hw (mo_T ho).1 kw_376 eσ_7 dX3_clear_26 (fun H locs hw => ?_)
  refine lv_aload_n hx hb dX3_clear_29 rfl (lv_at hl 0 rfl) ?_
  refine lv_bipush (v := 99) hx hb dX3_clear_30 (by decide) ?_
  obtain ⟨σ_8, eσ_8, h⟩ := lt_at h
  refine pf_3_10 C hw (mo_T ho).1 kw_377 eσ_8 dX3_clear_32 (fun H locs hw => ?_)
  cases h
  exact q_vret C hw dX3_clear_35
def f_X9_at (p1 : Int32) (σ : Mem) : Option (Int32 × Mem) :=
  if p1 < 0 then
    (some ((-1 : Int32), σ))
  else
    if (gI σ 3 1) ≤ p1 then
      (some ((-1 : Int32), σ))
    else
      gd (ib p1 120) <|
      some ((gI σ 4 p1.toNatClampNeg) &&& (255 : Int32), σ)
set_option maxHeartbeats 4000000 in
set_option maxRecDepth 100000 in
theorem m_X9_at (l : Launch) (E : EV) (p1 : Int32) (σ : Mem) (rr : Int32) (τ : Mem) (h : f_X9_at p1 σ = some (rr, τ)) : MI TC l E yX9_at cX9_at 2 (some .int) 0 0 [.ref (E.2.1 (3)), .int p1] σ rr τ := by
  refine mt_start RX9 (by decide +kernel) rfl (Nat.le_of_ble_eq_true rfl) (fun p e s m args below meth c ls C hw hl => ?_)
  replace hl : lv_has ls 2 [(0, .ref (E.2.1 (3))), (1, .int p1)] := hl
  obtain ⟨hx, hb, hml, hown, hts, hK, hSt, hlk, hr⟩ := id C
  unfold f_X9_at at h
  refine lv_iload_n hx hb dX9_at_0 rfl (lv_at hl 1 rfl) ?_
  refine lv_if_lt (tgt := 25) hx hb dX9_at_1 (by decide) (fun c_1 => ?_) (fun c_1 => ?_)
  · replace h := it_at h c_1
    refine lv_iconst (v := (-1)) hx hb dX9_at_25 (by decide) ?_
    obtain ⟨rfl, rfl⟩ := ret_at h
    exact q_iret C hw dX9_at_26
  · replace h := ie_at h c_1
    refine lv_iload_n hx hb dX9_at_4 rfl (lv_at hl 1 rfl) ?_
    refine lv_aload_n hx hb dX9_at_5 rfl (lv_at hl 0 rfl) ?_
    refine gf_9_1 C hw tC_3 kw_120 dX9_at_6 ?_
    refine lv_icmp_ge (tgt := 25) hx hb dX9_at_9 (by decide) (fun c_2 => ?_) (fun c_2 => ?_)
    · replace h := it_at h c_2
      refine lv_iconst (v := (-1)) hx hb dX9_at_25 (by decide) ?_
      obtain ⟨rfl, rfl⟩ := ret_at h
      exact q_iret C hw dX9_at_26
    · replace h := ie_at h c_2
      refine lv_aload_n hx hb dX9_at_12 rfl (lv_at hl 0 rfl) ?_
      refine gf_9_0 C hw tC_3 kw_119 (c1 := 4) rfl dX9_at_13 ?_
      refine lv_iload_n hx hb dX9_at_16 rfl (lv_at hl 1 rfl) ?_
      obtain ⟨g_3, h⟩ := gd_at h
      refine q_bald C hw tC_4 g_3 dX9_at_17 ?_
      refine lv_sipush (v := 255) hx hb dX9_at_18 (by decide) ?_
      refine lv_iand hx hb dX9_at_21 ?_
      refine lv_goto (tgt := 26) hx hb dX9_at_22 (by decide) ?_
      obtain ⟨rfl, rfl⟩ := ret_at h
      exact q_iret C hw dX9_at_26
def f_J0_isLatin1_aae02 (w : Nat) (σ : Mem) : Option (Int32 × Mem) :=
  if (1 : Int32) = 0 then
    (some ((0 : Int32), σ))
  else
    if (0 : Int32) = 0 then
      (some ((1 : Int32), σ))
    else
      some ((0 : Int32), σ)
set_option maxHeartbeats 4000000 in
set_option maxRecDepth 100000 in
theorem m_J0_isLatin1_aae02 {T : List (Nat × Nat)} (l : Launch) (E : EV) (w : Nat) (hs : w < 11) (σ : Mem) (rr : Int32) (τ : Mem) (h : f_J0_isLatin1_aae02 w σ = some (rr, τ)) : MI T l E yJ0_isLatin1_aae02 cJ0_isLatin1_aae02 1 (some .boolean) 0 0 [.ref (E.2.2.2.2 (2 + w))] σ rr τ := by
  refine mt_start RJ0 (by decide +kernel) rfl (Nat.le_of_ble_eq_true rfl) (fun p e s m args below meth c ls C hw hl => ?_)
  replace hl : lv_has ls 1 [(0, .ref (E.2.2.2.2 (2 + w)))] := hl
  obtain ⟨hx, hb, hml, hown, hts, hK, hSt, hlk, hr⟩ := id C
  unfold f_J0_isLatin1_aae02 at h
  refine q_compact C hw kw_474 dJ0_isLatin1_aae02_0 ?_
  refine lv_if_eq (tgt := 17) hx hb dJ0_isLatin1_aae02_3 (by decide) (fun c_1 => ?_) (fun c_1 => ?_)
  · replace h := it_at h c_1
    refine lv_iconst (v := 0) hx hb dJ0_isLatin1_aae02_17 (by decide) ?_
    obtain ⟨rfl, rfl⟩ := ret_at h
    exact q_zret C (by decide) hw dJ0_isLatin1_aae02_18
  · replace h := ie_at h c_1
    refine lv_aload_n hx hb dJ0_isLatin1_aae02_6 rfl (lv_at hl 0 rfl) ?_
    refine q_scod C hw hs kw_1462 dJ0_isLatin1_aae02_7 ?_
    refine lv_if_ne (tgt := 17) hx hb dJ0_isLatin1_aae02_10 (by decide) (fun c_2 => ?_) (fun c_2 => ?_)
    · replace h := ie_at h c_2
      refine lv_iconst (v := 0) hx hb dJ0_isLatin1_aae02_17 (by decide) ?_
      obtain ⟨rfl, rfl⟩ := ret_at h
      exact q_zret C (by decide) hw dJ0_isLatin1_aae02_18
    · replace h := it_at h c_2
      refine lv_iconst (v := 1) hx hb dJ0_isLatin1_aae02_13 (by decide) ?_
      refine lv_goto (tgt := 18) hx hb dJ0_isLatin1_aae02_14 (by decide) ?_
      obtain ⟨rfl, rfl⟩ := ret_at h
      exact q_zret C (by decide) hw dJ0_isLatin1_aae02_18
def f_J0_coder_7d493 (w : Nat) (σ : Mem) : Option (Int32 × Mem) :=
  if (1 : Int32) = 0 then
    (gd (i8 (1 : Int32)) (some ((1 : Int32), σ)))
  else
    gd (i8 (0 : Int32)) (some ((0 : Int32), σ))
set_option maxHeartbeats 4000000 in
set_option maxRecDepth 100000 in
theorem m_J0_coder_7d493 {T : List (Nat × Nat)} (l : Launch) (E : EV) (w : Nat) (hs : w < 11) (σ : Mem) (rr : Int32) (τ : Mem) (h : f_J0_coder_7d493 w σ = some (rr, τ)) : MI T l E yJ0_coder_7d493 cJ0_coder_7d493 1 (some .byte) 0 0 [.ref (E.2.2.2.2 (2 + w))] σ rr τ := by
  refine mt_start RJ0 (by decide +kernel) rfl (Nat.le_of_ble_eq_true rfl) (fun p e s m args below meth c ls C hw hl => ?_)
  replace hl : lv_has ls 1 [(0, .ref (E.2.2.2.2 (2 + w)))] := hl
  obtain ⟨hx, hb, hml, hown, hts, hK, hSt, hlk, hr⟩ := id C
  unfold f_J0_coder_7d493 at h
  refine q_compact C hw kw_474 dJ0_coder_7d493_0 ?_
  refine lv_if_eq (tgt := 13) hx hb dJ0_coder_7d493_3 (by decide) (fun c_1 => ?_) (fun c_1 => ?_)
  · replace h := it_at h c_1
    refine lv_iconst (v := 1) hx hb dJ0_coder_7d493_13 (by decide) ?_
    obtain ⟨g_2, h⟩ := gd_at h
    cases h
    exact q_bret C g_2 hw dJ0_coder_7d493_14
  · replace h := ie_at h c_1
    refine lv_aload_n hx hb dJ0_coder_7d493_6 rfl (lv_at hl 0 rfl) ?_
    refine q_scod C hw hs kw_1462 dJ0_coder_7d493_7 ?_
    refine lv_goto (tgt := 14) hx hb dJ0_coder_7d493_10 (by decide) ?_
    obtain ⟨g_3, h⟩ := gd_at h
    cases h
    exact q_bret C g_3 hw dJ0_coder_7d493_14
def f_J0_length_8abf5 (w : Nat) (σ : Mem) : Option (Int32 × Mem) :=
  bd (f_J0_coder_7d493 w σ) fun r_1 σ_2 =>
  some ((nI (lenS.getD w 0)) >>> (r_1 &&& 31), σ_2)
set_option maxHeartbeats 4000000 in
set_option maxRecDepth 100000 in
theorem m_J0_length_8abf5 {T : List (Nat × Nat)} (l : Launch) (E : EV) (w : Nat) (hs : w < 11) (σ : Mem) (rr : Int32) (τ : Mem) (h : f_J0_length_8abf5 w σ = some (rr, τ)) : MI T l E yJ0_length_8abf5 cJ0_length_8abf5 1 (some .int) 1 20 [.ref (E.2.2.2.2 (2 + w))] σ rr τ := by
  refine mt_start RJ0 (by decide +kernel) rfl (Nat.le_of_ble_eq_true rfl) (fun p e s m args below meth c ls C hw hl => ?_)
  replace hl : lv_has ls 1 [(0, .ref (E.2.2.2.2 (2 + w)))] := hl
  obtain ⟨hx, hb, hml, hown, hts, hK, hSt, hlk, hr⟩ := id C
  unfold f_J0_length_8abf5 at h
  refine lv_aload_n hx hb dJ0_length_8abf5_0 rfl (lv_at hl 0 rfl) ?_
  refine q_sval C hw hs kw_1463 dJ0_length_8abf5_1 ?_
  refine q_slen C hw hs dJ0_length_8abf5_4 ?_
  refine lv_aload_n hx hb dJ0_length_8abf5_5 rfl (lv_at hl 0 rfl) ?_
  obtain ⟨r_1, σ_2, h_3, h⟩ := bd_at h
  refine q_afterI hw (q_runW C hw hl.1 hs (As := []) (rest := [.int (nI (lenS.getD w 0))]) (m_J0_coder_7d493 l E w hs σ r_1 σ_2 h_3) yq_J0_coder_7d493 rfl kw_480 ⟨Nat.le_of_ble_eq_true rfl, Nat.le_of_ble_eq_true rfl⟩ rfl (Nat.le_of_ble_eq_true rfl) ⟨Nat.zero_le _, Nat.zero_le _⟩ dJ0_length_8abf5_6) (fun H locs hw => ?_)
  refine lv_ishr hx hb dJ0_length_8abf5_9 ?_
  obtain ⟨rfl, rfl⟩ := ret_at h
  exact q_iret C hw dJ0_length_8abf5_10
def f_J1_canEncode_9a6ad (p0 : Int32) (σ : Mem) : Option (Int32 × Mem) :=
  if p0 < 0 then
    (some ((0 : Int32), σ))
  else
    if (255 : Int32) < p0 then
      (some ((0 : Int32), σ))
    else
      some ((1 : Int32), σ)
set_option maxHeartbeats 4000000 in
set_option maxRecDepth 100000 in
theorem m_J1_canEncode_9a6ad {T : List (Nat × Nat)} (l : Launch) (E : EV) (p0 : Int32) (σ : Mem) (rr : Int32) (τ : Mem) (h : f_J1_canEncode_9a6ad p0 σ = some (rr, τ)) : MI T l E yJ1_canEncode_9a6ad cJ1_canEncode_9a6ad 1 (some .boolean) 0 0 [.int p0] σ rr τ := by
  refine mt_start RJ1 (by decide +kernel) rfl (Nat.le_of_ble_eq_true rfl) (fun p e s m args below meth c ls C hw hl => ?_)
  replace hl : lv_has ls 1 [(0, .int p0)] := hl
  obtain ⟨hx, hb, hml, hown, hts, hK, hSt, hlk, hr⟩ := id C
  unfold f_J1_canEncode_9a6ad at h
  refine lv_iload_n hx hb dJ1_canEncode_9a6ad_0 rfl (lv_at hl 0 rfl) ?_
  refine lv_if_lt (tgt := 15) hx hb dJ1_canEncode_9a6ad_1 (by decide) (fun c_1 => ?_) (fun c_1 => ?_)
  · replace h := it_at h c_1
    refine lv_iconst (v := 0) hx hb dJ1_canEncode_9a6ad_15 (by decide) ?_
    obtain ⟨rfl, rfl⟩ := ret_at h
    exact q_zret C (by decide) hw dJ1_canEncode_9a6ad_16
  · replace h := ie_at h c_1
    refine lv_iload_n hx hb dJ1_canEncode_9a6ad_4 rfl (lv_at hl 0 rfl) ?_
    refine lv_sipush (v := 255) hx hb dJ1_canEncode_9a6ad_5 (by decide) ?_
    refine lv_icmp_gt (tgt := 15) hx hb dJ1_canEncode_9a6ad_8 (by decide) (fun c_2 => ?_) (fun c_2 => ?_)
    · replace h := it_at h c_2
      refine lv_iconst (v := 0) hx hb dJ1_canEncode_9a6ad_15 (by decide) ?_
      obtain ⟨rfl, rfl⟩ := ret_at h
      exact q_zret C (by decide) hw dJ1_canEncode_9a6ad_16
    · replace h := ie_at h c_2
      refine lv_iconst (v := 1) hx hb dJ1_canEncode_9a6ad_11 (by decide) ?_
      refine lv_goto (tgt := 16) hx hb dJ1_canEncode_9a6ad_12 (by decide) ?_
      obtain ⟨rfl, rfl⟩ := ret_at h
      exact q_zret C (by decide) hw dJ1_canEncode_9a6ad_16
def f_J1_indexOfChar_4cfef_7 (w : Nat) (k7 : Int32 → Int32 → Int32 → Mem → Option (Int32 × Mem)) (x3 : Int32) (x4 : Int32) (x5 : Int32) (σ : Mem) : Option (Int32 × Mem) :=
  if x3 ≤ x5 then
    (some ((-1 : Int32), σ))
  else
    gd (ib x5 (lenS.getD w 0)) <|
    if (chS w x5.toNatClampNeg) = x4 then
      (some (x5, σ))
    else
      lt (x5 + (1 : Int32)) fun x5_5 =>
      k7 x3 x4 x5_5 σ
def f_J1_indexOfChar_4cfef (w : Nat) (p1 : Int32) (p2 : Int32) (p3 : Int32) (σ : Mem) : Option (Int32 × Mem) :=
  lt (p1.toInt8.toInt32) fun x4_1 =>
  fx4 (f_J1_indexOfChar_4cfef_7 w) FU p3 x4_1 p2 σ
set_option maxHeartbeats 4000000 in
set_option maxRecDepth 100000 in
theorem w_J1_indexOfChar_4cfef_7 {p : Program} {l : Launch} {e : Env} {s : State} {m : MethodId} {args : Array Value} {below : List Frame} {meth : Method} {c : Code} {E : EV} {rr : Int32} {τ : Mem} {T : List (Nat × Nat)} (C : Cx E p s m args meth c cJ1_indexOfChar_4cfef 6 (some .int) RJ1) (w : Nat) (hs : w < 11) : ∀ (n : Nat) (x3 : Int32) (x4 : Int32) (x5 : Int32) (σ : Mem) (H : Heap) (locs : List Loc) (ls : Array Slot) (hw : Wd T E σ s H locs) (hl : lv_has ls 6 [(0, .ref (E.2.2.2.2 (20 + w))), (3, .int x3), (4, .int x4), (5, .int x5)]) (h : fx4 (f_J1_indexOfChar_4cfef_7 w) n x3 x4 x5 σ = some (rr, τ)), W p l e { frames := 0, cells := 0, slots := 0, locals := 0 } s m args below meth c H locs 0 0 (MQ below (QI T E rr τ) args s 0 0 E.2.2.1) (F0 m 7 ls []) := by
  obtain ⟨hx, hb, hml, hown, hts, hK, hSt, hlk, hr⟩ := id C
  intro n
  induction n with
  | zero =>
    intro x3 x4 x5 σ H locs ls hw hl h
    have h : none = some (rr, τ) := h
    cases h
  | succ n hk7 =>
    intro x3 x4 x5 σ H locs ls hw hl h
    replace h : f_J1_indexOfChar_4cfef_7 w (fx4 (f_J1_indexOfChar_4cfef_7 w) n) x3 x4 x5 σ = some (rr, τ) := h
    unfold f_J1_indexOfChar_4cfef_7 at h
    refine lv_iload hx hb dJ1_indexOfChar_4cfef_7 (lv_at hl 3 rfl) ?_
    refine lv_iload_n hx hb dJ1_indexOfChar_4cfef_9 rfl (lv_at hl 1 rfl) ?_
    refine lv_icmp_ge (tgt := 31) hx hb dJ1_indexOfChar_4cfef_10 (by decide) (fun c_2 => ?_) (fun c_2 => ?_)
    · replace h := it_at h c_2
      refine lv_iconst (v := (-1)) hx hb dJ1_indexOfChar_4cfef_31 (by decide) ?_
      obtain ⟨rfl, rfl⟩ := ret_at h
      exact q_iret C hw dJ1_indexOfChar_4cfef_32
    · replace h := ie_at h c_2
      refine lv_aload_n hx hb dJ1_indexOfChar_4cfef_13 rfl (lv_at hl 0 rfl) ?_
      refine lv_iload hx hb dJ1_indexOfChar_4cfef_14 (lv_at hl 3 rfl) ?_
      obtain ⟨g_3, h⟩ := gd_at h
      refine q_sbld C hw hs g_3 dJ1_indexOfChar_4cfef_16 ?_
      refine lv_iload hx hb dJ1_indexOfChar_4cfef_17 (lv_at hl 2 rfl) ?_
      refine lv_icmp_ne (tgt := 25) hx hb dJ1_indexOfChar_4cfef_19 (by decide) (fun c_4 => ?_) (fun c_4 => ?_)
      · replace h := ie_at h c_4
        obtain ⟨x5_5, ex5_5, h⟩ := lt_at h
        refine lv_iinc (v := x5_5) (lv' := [(5, .int x5_5), (0, .ref (E.2.2.2.2 (20 + w))), (3, .int x3), (4, .int x4)]) hx hb dJ1_indexOfChar_4cfef_25 hl (k := 3) rfl (by rw [ex5_5]; rfl) (by decide) rfl (fun ls hl => ?_)
        refine lv_goto (tgt := 7) hx hb dJ1_indexOfChar_4cfef_28 (by decide) ?_
        exact hk7 _ _ _ _ _ _ _ hw (lv_sub hl [1, 2, 3, 0] rfl) h
      · replace h := it_at h c_4
        refine lv_iload hx hb dJ1_indexOfChar_4cfef_22 (lv_at hl 3 rfl) ?_
        obtain ⟨rfl, rfl⟩ := ret_at h
        exact q_iret C hw dJ1_indexOfChar_4cfef_24
set_option maxHeartbeats 4000000 in
set_option maxRecDepth 100000 in
theorem m_J1_indexOfChar_4cfef {T : List (Nat × Nat)} (l : Launch) (E : EV) (w : Nat) (hs : w < 11) (p1 : Int32) (p2 : Int32) (p3 : Int32) (σ : Mem) (rr : Int32) (τ : Mem) (h : f_J1_indexOfChar_4cfef w p1 p2 p3 σ = some (rr, τ)) : MI T l E yJ1_indexOfChar_4cfef cJ1_indexOfChar_4cfef 6 (some .int) 0 0 [.ref (E.2.2.2.2 (20 + w)), .int p1, .int p2, .int p3] σ rr τ := by
  refine mt_start RJ1 (by decide +kernel) rfl (Nat.le_of_ble_eq_true rfl) (fun p e s m args below meth c ls C hw hl => ?_)
  replace hl : lv_has ls 6 [(0, .ref (E.2.2.2.2 (20 + w))), (1, .int p1), (2, .int p2), (3, .int p3)] := hl
  obtain ⟨hx, hb, hml, hown, hts, hK, hSt, hlk, hr⟩ := id C
  unfold f_J1_indexOfChar_4cfef at h
  refine lv_iload_n hx hb dJ1_indexOfChar_4cfef_0 rfl (lv_at hl 1 rfl) ?_
  refine lv_i2b hx hb dJ1_indexOfChar_4cfef_1 rfl ?_
  obtain ⟨x4_1, ex4_1, h⟩ := lt_at h
  refine q_top ex4_1 ?_
  refine lv_istore (lv' := [(4, .int x4_1), (0, .ref (E.2.2.2.2 (20 + w))), (1, .int p1), (2, .int p2), (3, .int p3)]) hx hb dJ1_indexOfChar_4cfef_2 hl (by decide) rfl (fun ls hl => ?_)
  refine lv_iload_n hx hb dJ1_indexOfChar_4cfef_4 rfl (lv_at hl 3 rfl) ?_
  refine lv_istore (lv' := [(5, .int p2), (4, .int x4_1), (0, .ref (E.2.2.2.2 (20 + w))), (1, .int p1), (2, .int p2), (3, .int p3)]) hx hb dJ1_indexOfChar_4cfef_5 hl (by decide) rfl (fun ls hl => ?_)
  exact w_J1_indexOfChar_4cfef_7 C w hs _ _ _ _ _ _ _ _ hw (lv_sub hl [2, 5, 1, 0] rfl) h
def f_J1_indexOf_4cfef (w : Nat) (p1 : Int32) (p2 : Int32) (p3 : Int32) (σ : Mem) : Option (Int32 × Mem) :=
  bd (f_J1_canEncode_9a6ad p1 σ) fun r_1 σ_2 =>
  if r_1 = 0 then
    (some ((-1 : Int32), σ_2))
  else
    lt (imx p2 (0 : Int32)) fun x2_5 =>
    lt (imn p3 (nI (lenS.getD w 0))) fun x3_6 =>
    if x2_5 < x3_6 then
      (bd (f_J1_indexOfChar_4cfef w p1 x2_5 x3_6 σ_2) fun r_8 σ_9 =>
      some (r_8, σ_9))
    else
      some ((-1 : Int32), σ_2)
set_option maxHeartbeats 4000000 in
set_option maxRecDepth 100000 in
theorem m_J1_indexOf_4cfef {T : List (Nat × Nat)} (l : Launch) (E : EV) (w : Nat) (hs : w < 11) (p1 : Int32) (p2 : Int32) (p3 : Int32) (σ : Mem) (rr : Int32) (τ : Mem) (h : f_J1_indexOf_4cfef w p1 p2 p3 σ = some (rr, τ)) : MI T l E yJ1_indexOf_4cfef cJ1_indexOf_4cfef 4 (some .int) 1 25 [.ref (E.2.2.2.2 (20 + w)), .int p1, .int p2, .int p3] σ rr τ := by
  refine mt_start RJ1 (by decide +kernel) rfl (Nat.le_of_ble_eq_true rfl) (fun p e s m args below meth c ls C hw hl => ?_)
  replace hl : lv_has ls 4 [(0, .ref (E.2.2.2.2 (20 + w))), (1, .int p1), (2, .int p2), (3, .int p3)] := hl
  obtain ⟨hx, hb, hml, hown, hts, hK, hSt, hlk, hr⟩ := id C
  unfold f_J1_indexOf_4cfef at h
  refine lv_iload_n hx hb dJ1_indexOf_4cfef_0 rfl (lv_at hl 1 rfl) ?_
  obtain ⟨r_1, σ_2, h_3, h⟩ := bd_at h
  refine q_afterI hw (q_runS C hw hl.1 (As := [.int p1]) (rest := []) (m_J1_canEncode_9a6ad l E p1 σ r_1 σ_2 h_3) yq_J1_canEncode_9a6ad kw_487 ⟨Nat.le_of_ble_eq_true rfl, Nat.le_of_ble_eq_true rfl⟩ rfl (Nat.le_of_ble_eq_true rfl) ⟨Nat.zero_le _, Nat.zero_le _⟩ dJ1_indexOf_4cfef_1) (fun H locs hw => ?_)
  refine lv_if_ne (tgt := 9) hx hb dJ1_indexOf_4cfef_4 (by decide) (fun c_4 => ?_) (fun c_4 => ?_)
  · replace h := ie_at h c_4
    refine lv_iload_n hx hb dJ1_indexOf_4cfef_9 rfl (lv_at hl 2 rfl) ?_
    refine lv_iconst (v := 0) hx hb dJ1_indexOf_4cfef_10 (by decide) ?_
    refine q_max C hl.1 kw_490 (Nat.le_of_ble_eq_true rfl) (Nat.le_of_ble_eq_true rfl) (Nat.le_of_ble_eq_true rfl) ⟨Nat.zero_le _, Nat.zero_le _⟩ dJ1_indexOf_4cfef_11 ?_
    obtain ⟨x2_5, ex2_5, h⟩ := lt_at h
    refine q_top ex2_5 ?_
    refine lv_istore_n (lv' := [(2, .int x2_5), (0, .ref (E.2.2.2.2 (20 + w))), (1, .int p1), (3, .int p3)]) hx hb dJ1_indexOf_4cfef_14 rfl hl (by decide) rfl (fun ls hl => ?_)
    refine lv_iload_n hx hb dJ1_indexOf_4cfef_15 rfl (lv_at hl 3 rfl) ?_
    refine lv_aload_n hx hb dJ1_indexOf_4cfef_16 rfl (lv_at hl 1 rfl) ?_
    refine q_slen C hw hs dJ1_indexOf_4cfef_17 ?_
    refine q_min C hl.1 kw_493 (Nat.le_of_ble_eq_true rfl) (Nat.le_of_ble_eq_true rfl) (Nat.le_of_ble_eq_true rfl) ⟨Nat.zero_le _, Nat.zero_le _⟩ dJ1_indexOf_4cfef_18 ?_
    obtain ⟨x3_6, ex3_6, h⟩ := lt_at h
    refine q_top ex3_6 ?_
    refine lv_istore_n (lv' := [(3, .int x3_6), (2, .int x2_5), (0, .ref (E.2.2.2.2 (20 + w))), (1, .int p1)]) hx hb dJ1_indexOf_4cfef_21 rfl hl (by decide) rfl (fun ls hl => ?_)
    refine lv_iload_n hx hb dJ1_indexOf_4cfef_22 rfl (lv_at hl 1 rfl) ?_
    refine lv_iload_n hx hb dJ1_indexOf_4cfef_23 rfl (lv_at hl 0 rfl) ?_
    refine lv_icmp_lt (tgt := 29) hx hb dJ1_indexOf_4cfef_24 (by decide) (fun c_7 => ?_) (fun c_7 => ?_)
    · replace h := it_at h c_7
      refine lv_aload_n hx hb dJ1_indexOf_4cfef_29 rfl (lv_at hl 2 rfl) ?_
      refine lv_iload_n hx hb dJ1_indexOf_4cfef_30 rfl (lv_at hl 3 rfl) ?_
      refine lv_iload_n hx hb dJ1_indexOf_4cfef_31 rfl (lv_at hl 1 rfl) ?_
      refine lv_iload_n hx hb dJ1_indexOf_4cfef_32 rfl (lv_at hl 0 rfl) ?_
      obtain ⟨r_8, σ_9, h_10, h⟩ := bd_at h
      refine q_afterI hw (q_runS C hw hl.1 (As := [.ref (E.2.2.2.2 (20 + w)), .int p1, .int x2_5, .int x3_6]) (rest := []) (m_J1_indexOfChar_4cfef l E w hs p1 x2_5 x3_6 σ_2 r_8 σ_9 h_10) yq_J1_indexOfChar_4cfef kw_496 ⟨Nat.le_of_ble_eq_true rfl, Nat.le_of_ble_eq_true rfl⟩ rfl (Nat.le_of_ble_eq_true rfl) ⟨Nat.zero_le _, Nat.zero_le _⟩ dJ1_indexOf_4cfef_33) (fun H locs hw => ?_)
      obtain ⟨rfl, rfl⟩ := ret_at h
      exact q_iret C hw dJ1_indexOf_4cfef_36
    · replace h := ie_at h c_7
      refine lv_iconst (v := (-1)) hx hb dJ1_indexOf_4cfef_27 (by decide) ?_
      obtain ⟨rfl, rfl⟩ := ret_at h
      exact q_iret C hw dJ1_indexOf_4cfef_28
  · replace h := it_at h c_4
    refine lv_iconst (v := (-1)) hx hb dJ1_indexOf_4cfef_7 (by decide) ?_
    obtain ⟨rfl, rfl⟩ := ret_at h
    exact q_iret C hw dJ1_indexOf_4cfef_8
def f_J0_indexOf_7cf53 (w : Nat) (p1 : Int32) (p2 : Int32) (σ : Mem) : Option (Int32 × Mem) :=
  bd (f_J0_isLatin1_aae02 w σ) fun r_1 σ_2 =>
  if r_1 = 0 then
    (bd (f_J0_length_8abf5 w σ_2) fun r_5 σ_6 =>
    none)
  else
    bd (f_J0_length_8abf5 w σ_2) fun r_8 σ_9 =>
    bd (f_J1_indexOf_4cfef w p1 p2 r_8 σ_9) fun r_11 σ_12 =>
    some (r_11, σ_12)
set_option maxHeartbeats 4000000 in
set_option maxRecDepth 100000 in
theorem m_J0_indexOf_7cf53 {T : List (Nat × Nat)} (l : Launch) (E : EV) (w : Nat) (hs : w < 11) (p1 : Int32) (p2 : Int32) (σ : Mem) (rr : Int32) (τ : Mem) (h : f_J0_indexOf_7cf53 w p1 p2 σ = some (rr, τ)) : MI T l E yJ0_indexOf_7cf53 cJ0_indexOf_7cf53 3 (some .int) 2 48 [.ref (E.2.2.2.2 (2 + w)), .int p1, .int p2] σ rr τ := by
  refine mt_start RJ0 (by decide +kernel) rfl (Nat.le_of_ble_eq_true rfl) (fun p e s m args below meth c ls C hw hl => ?_)
  replace hl : lv_has ls 3 [(0, .ref (E.2.2.2.2 (2 + w))), (1, .int p1), (2, .int p2)] := hl
  obtain ⟨hx, hb, hml, hown, hts, hK, hSt, hlk, hr⟩ := id C
  unfold f_J0_indexOf_7cf53 at h
  refine lv_aload_n hx hb dJ0_indexOf_7cf53_0 rfl (lv_at hl 0 rfl) ?_
  obtain ⟨r_1, σ_2, h_3, h⟩ := bd_at h
  refine q_afterI hw (q_runW C hw hl.1 hs (As := []) (rest := []) (m_J0_isLatin1_aae02 l E w hs σ r_1 σ_2 h_3) yq_J0_isLatin1_aae02 rfl kw_470 ⟨Nat.le_of_ble_eq_true rfl, Nat.le_of_ble_eq_true rfl⟩ rfl (Nat.le_of_ble_eq_true rfl) ⟨Nat.zero_le _, Nat.zero_le _⟩ dJ0_indexOf_7cf53_1) (fun H locs hw => ?_)
  refine lv_if_eq (tgt := 23) hx hb dJ0_indexOf_7cf53_4 (by decide) (fun c_4 => ?_) (fun c_4 => ?_)
  · replace h := it_at h c_4
    refine lv_aload_n hx hb dJ0_indexOf_7cf53_23 rfl (lv_at hl 0 rfl) ?_
    refine q_sval C hw hs kw_1463 dJ0_indexOf_7cf53_24 ?_
    refine lv_iload_n hx hb dJ0_indexOf_7cf53_27 rfl (lv_at hl 1 rfl) ?_
    refine lv_iload_n hx hb dJ0_indexOf_7cf53_28 rfl (lv_at hl 2 rfl) ?_
    refine lv_aload_n hx hb dJ0_indexOf_7cf53_29 rfl (lv_at hl 0 rfl) ?_
    obtain ⟨r_5, σ_6, h_7, h⟩ := bd_at h
    refine q_afterI hw (q_runW C hw hl.1 hs (As := []) (rest := [.int p2, .int p1, .ref (E.2.2.2.2 (20 + w))]) (m_J0_length_8abf5 l E w hs σ_2 r_5 σ_6 h_7) yq_J0_length_8abf5 rfl kw_476 ⟨Nat.le_of_ble_eq_true rfl, Nat.le_of_ble_eq_true rfl⟩ rfl (Nat.le_of_ble_eq_true rfl) ⟨Nat.zero_le _, Nat.zero_le _⟩ dJ0_indexOf_7cf53_30) (fun H locs hw => ?_)
    cases h
  · replace h := ie_at h c_4
    refine lv_aload_n hx hb dJ0_indexOf_7cf53_7 rfl (lv_at hl 0 rfl) ?_
    refine q_sval C hw hs kw_1463 dJ0_indexOf_7cf53_8 ?_
    refine lv_iload_n hx hb dJ0_indexOf_7cf53_11 rfl (lv_at hl 1 rfl) ?_
    refine lv_iload_n hx hb dJ0_indexOf_7cf53_12 rfl (lv_at hl 2 rfl) ?_
    refine lv_aload_n hx hb dJ0_indexOf_7cf53_13 rfl (lv_at hl 0 rfl) ?_
    obtain ⟨r_8, σ_9, h_10, h⟩ := bd_at h
    refine q_afterI hw (q_runW C hw hl.1 hs (As := []) (rest := [.int p2, .int p1, .ref (E.2.2.2.2 (20 + w))]) (m_J0_length_8abf5 l E w hs σ_2 r_8 σ_9 h_10) yq_J0_length_8abf5 rfl kw_476 ⟨Nat.le_of_ble_eq_true rfl, Nat.le_of_ble_eq_true rfl⟩ rfl (Nat.le_of_ble_eq_true rfl) ⟨Nat.zero_le _, Nat.zero_le _⟩ dJ0_indexOf_7cf53_14) (fun H locs hw => ?_)
    obtain ⟨r_11, σ_12, h_13, h⟩ := bd_at h
    refine q_afterI hw (q_runS C hw hl.1 (As := [.ref (E.2.2.2.2 (20 + w)), .int p1, .int p2, .int r_8]) (rest := []) (m_J1_indexOf_4cfef l E w hs p1 p2 r_8 σ_9 r_11 σ_12 h_13) yq_J1_indexOf_4cfef kw_484 ⟨Nat.le_of_ble_eq_true rfl, Nat.le_of_ble_eq_true rfl⟩ rfl (Nat.le_of_ble_eq_true rfl) ⟨Nat.zero_le _, Nat.zero_le _⟩ dJ0_indexOf_7cf53_17) (fun H locs hw => ?_)
    refine lv_goto (tgt := 36) hx hb dJ0_indexOf_7cf53_20 (by decide) ?_
    obtain ⟨rfl, rfl⟩ := ret_at h
    exact q_iret C hw dJ0_indexOf_7cf53_36
def f_J0_indexOf_0f7a4 (w : Nat) (p1 : Int32) (σ : Mem) : Option (Int32 × Mem) :=
  bd (f_J0_indexOf_7cf53 w p1 (0 : Int32) σ) fun r_1 σ_2 =>
  some (r_1, σ_2)
set_option maxHeartbeats 4000000 in
set_option maxRecDepth 100000 in
theorem m_J0_indexOf_0f7a4 {T : List (Nat × Nat)} (l : Launch) (E : EV) (w : Nat) (hs : w < 11) (p1 : Int32) (σ : Mem) (rr : Int32) (τ : Mem) (h : f_J0_indexOf_0f7a4 w p1 σ = some (rr, τ)) : MI T l E yJ0_indexOf_0f7a4 cJ0_indexOf_0f7a4 2 (some .int) 3 70 [.ref (E.2.2.2.2 (2 + w)), .int p1] σ rr τ := by
  refine mt_start RJ0 (by decide +kernel) rfl (Nat.le_of_ble_eq_true rfl) (fun p e s m args below meth c ls C hw hl => ?_)
  replace hl : lv_has ls 2 [(0, .ref (E.2.2.2.2 (2 + w))), (1, .int p1)] := hl
  obtain ⟨hx, hb, hml, hown, hts, hK, hSt, hlk, hr⟩ := id C
  unfold f_J0_indexOf_0f7a4 at h
  refine lv_aload_n hx hb dJ0_indexOf_0f7a4_0 rfl (lv_at hl 0 rfl) ?_
  refine lv_iload_n hx hb dJ0_indexOf_0f7a4_1 rfl (lv_at hl 1 rfl) ?_
  refine lv_iconst (v := 0) hx hb dJ0_indexOf_0f7a4_2 (by decide) ?_
  obtain ⟨r_1, σ_2, h_3, h⟩ := bd_at h
  refine q_afterI hw (q_runW C hw hl.1 hs (As := [.int p1, .int (0 : Int32)]) (rest := []) (m_J0_indexOf_7cf53 l E w hs p1 (0 : Int32) σ r_1 σ_2 h_3) yq_J0_indexOf_7cf53 rfl kw_466 ⟨Nat.le_of_ble_eq_true rfl, Nat.le_of_ble_eq_true rfl⟩ rfl (Nat.le_of_ble_eq_true rfl) ⟨Nat.zero_le _, Nat.zero_le _⟩ dJ0_indexOf_0f7a4_3) (fun H locs hw => ?_)
  obtain ⟨rfl, rfl⟩ := ret_at h
  exact q_iret C hw dJ0_indexOf_0f7a4_6
def f_X6_placeIn (w : Nat) (σ : Mem) : Option (Int32 × Mem) :=
  gd (decide (gI σ 40 0 = nI 3)) <|
  bd (f_X9_at (gI σ 40 2) σ) fun r_2 σ_3 =>
  if 0 ≤ r_2 then
    (bd (f_J0_indexOf_0f7a4 w ((r_2.toUInt32 % 65536).toInt32) σ_3) fun r_6 σ_7 =>
    some (r_6, σ_7))
  else
    some ((-1 : Int32), σ_3)
set_option maxHeartbeats 4000000 in
set_option maxRecDepth 100000 in
theorem m_X6_placeIn (l : Launch) (E : EV) (w : Nat) (hs : w < 11) (σ : Mem) (rr : Int32) (τ : Mem) (h : f_X6_placeIn w σ = some (rr, τ)) : MI TC l E yX6_placeIn cX6_placeIn 3 (some .int) 4 91 [.ref (E.2.1 (40)), .ref (E.2.2.2.2 (2 + w))] σ rr τ := by
  refine mt_start RX6 (by decide +kernel) rfl (Nat.le_of_ble_eq_true rfl) (fun p e s m args below meth c ls C hw hl => ?_)
  replace hl : lv_has ls 3 [(0, .ref (E.2.1 (40))), (1, .ref (E.2.2.2.2 (2 + w)))] := hl
  obtain ⟨hx, hb, hml, hown, hts, hK, hSt, hlk, hr⟩ := id C
  unfold f_X6_placeIn at h
  refine lv_aload_n hx hb dX6_placeIn_0 rfl (lv_at hl 0 rfl) ?_
  obtain ⟨g_1, h⟩ := gd_at h
  refine gf_6_0 C hw tC_40 kw_276 (c1 := 3) (by decide) (of_decide_eq_true g_1) dX6_placeIn_1 ?_
  refine lv_aload_n hx hb dX6_placeIn_4 rfl (lv_at hl 0 rfl) ?_
  refine gf_6_2 C hw tC_40 kw_278 dX6_placeIn_5 ?_
  obtain ⟨r_2, σ_3, h_4, h⟩ := bd_at h
  refine q_afterI hw (q_runV C hw hl.1 (As := [.int (gI σ 40 2)]) (rest := []) (m_X9_at l E (gI σ 40 2) σ r_2 σ_3 h_4) yq_X9_at tC_3 rfl rfl kw_458 ⟨Nat.le_of_ble_eq_true rfl, Nat.le_of_ble_eq_true rfl⟩ rfl (Nat.le_of_ble_eq_true rfl) ⟨Nat.zero_le _, Nat.zero_le _⟩ dX6_placeIn_8) (fun H locs hw => ?_)
  refine lv_istore_n (lv' := [(2, .int r_2), (0, .ref (E.2.1 (40))), (1, .ref (E.2.2.2.2 (2 + w)))]) hx hb dX6_placeIn_11 rfl hl (by decide) rfl (fun ls hl => ?_)
  refine lv_iload_n hx hb dX6_placeIn_12 rfl (lv_at hl 0 rfl) ?_
  refine lv_if_ge (tgt := 20) hx hb dX6_placeIn_13 (by decide) (fun c_5 => ?_) (fun c_5 => ?_)
  · replace h := it_at h c_5
    refine lv_aload_n hx hb dX6_placeIn_20 rfl (lv_at hl 2 rfl) ?_
    refine lv_iload_n hx hb dX6_placeIn_21 rfl (lv_at hl 0 rfl) ?_
    refine lv_i2c hx hb dX6_placeIn_22 rfl ?_
    obtain ⟨r_6, σ_7, h_8, h⟩ := bd_at h
    refine q_afterI hw (q_runW C hw hl.1 hs (As := [.int ((r_2.toUInt32 % 65536).toInt32)]) (rest := []) (m_J0_indexOf_0f7a4 l E w hs ((r_2.toUInt32 % 65536).toInt32) σ_3 r_6 σ_7 h_8) yq_J0_indexOf_0f7a4 rfl kw_462 ⟨Nat.le_of_ble_eq_true rfl, Nat.le_of_ble_eq_true rfl⟩ rfl (Nat.le_of_ble_eq_true rfl) ⟨Nat.zero_le _, Nat.zero_le _⟩ dX6_placeIn_23) (fun H locs hw => ?_)
    obtain ⟨rfl, rfl⟩ := ret_at h
    exact q_iret C hw dX6_placeIn_26
  · replace h := ie_at h c_5
    refine lv_iconst (v := (-1)) hx hb dX6_placeIn_16 (by decide) ?_
    refine lv_goto (tgt := 26) hx hb dX6_placeIn_17 (by decide) ?_
    obtain ⟨rfl, rfl⟩ := ret_at h
    exact q_iret C hw dX6_placeIn_26
def f_J3_checkIndex_8e157 (p0 : Int32) (p1 : Int32) (σ : Mem) : Option (Int32 × Mem) :=
  if p0 < 0 then
    none
  else
    if p0 < p1 then
      (some (p0, σ))
    else
      none
set_option maxHeartbeats 4000000 in
set_option maxRecDepth 100000 in
theorem m_J3_checkIndex_8e157 {T : List (Nat × Nat)} (l : Launch) (E : EV) {fv : Value} (hfv : fv = .null ∨ ∃ t, fv = .ref t) (p0 : Int32) (p1 : Int32) (σ : Mem) (rr : Int32) (τ : Mem) (h : f_J3_checkIndex_8e157 p0 p1 σ = some (rr, τ)) : MI T l E yJ3_checkIndex_8e157 cJ3_checkIndex_8e157 3 (some .int) 0 0 [.int p0, .int p1, fv] σ rr τ := by
  rcases hfv with rfl | ⟨t, rfl⟩
  · refine mt_start RJ3 (by decide +kernel) rfl (Nat.le_of_ble_eq_true rfl) (fun p e s m args below meth c ls C hw hl => ?_)
    replace hl : lv_has ls 3 [(0, .int p0), (1, .int p1), (2, .null)] := hl
    obtain ⟨hx, hb, hml, hown, hts, hK, hSt, hlk, hr⟩ := id C
    unfold f_J3_checkIndex_8e157 at h
    refine lv_iload_n hx hb dJ3_checkIndex_8e157_0 rfl (lv_at hl 0 rfl) ?_
    refine lv_if_lt (tgt := 9) hx hb dJ3_checkIndex_8e157_1 (by decide) (fun c_1 => ?_) (fun c_1 => ?_)
    · replace h := it_at h c_1
      cases h
    · replace h := ie_at h c_1
      refine lv_iload_n hx hb dJ3_checkIndex_8e157_4 rfl (lv_at hl 0 rfl) ?_
      refine lv_iload_n hx hb dJ3_checkIndex_8e157_5 rfl (lv_at hl 1 rfl) ?_
      refine lv_icmp_lt (tgt := 16) hx hb dJ3_checkIndex_8e157_6 (by decide) (fun c_2 => ?_) (fun c_2 => ?_)
      · replace h := it_at h c_2
        refine lv_iload_n hx hb dJ3_checkIndex_8e157_16 rfl (lv_at hl 0 rfl) ?_
        obtain ⟨rfl, rfl⟩ := ret_at h
        exact q_iret C hw dJ3_checkIndex_8e157_17
      · replace h := ie_at h c_2
        cases h
  · refine mt_start RJ3 (by decide +kernel) rfl (Nat.le_of_ble_eq_true rfl) (fun p e s m args below meth c ls C hw hl => ?_)
    replace hl : lv_has ls 3 [(0, .int p0), (1, .int p1), (2, .ref t)] := hl
    obtain ⟨hx, hb, hml, hown, hts, hK, hSt, hlk, hr⟩ := id C
    unfold f_J3_checkIndex_8e157 at h
    refine lv_iload_n hx hb dJ3_checkIndex_8e157_0 rfl (lv_at hl 0 rfl) ?_
    refine lv_if_lt (tgt := 9) hx hb dJ3_checkIndex_8e157_1 (by decide) (fun c_1 => ?_) (fun c_1 => ?_)
    · replace h := it_at h c_1
      cases h
    · replace h := ie_at h c_1
      refine lv_iload_n hx hb dJ3_checkIndex_8e157_4 rfl (lv_at hl 0 rfl) ?_
      refine lv_iload_n hx hb dJ3_checkIndex_8e157_5 rfl (lv_at hl 1 rfl) ?_
      refine lv_icmp_lt (tgt := 16) hx hb dJ3_checkIndex_8e157_6 (by decide) (fun c_2 => ?_) (fun c_2 => ?_)
      · replace h := it_at h c_2
        refine lv_iload_n hx hb dJ3_checkIndex_8e157_16 rfl (lv_at hl 0 rfl) ?_
        obtain ⟨rfl, rfl⟩ := ret_at h
        exact q_iret C hw dJ3_checkIndex_8e157_17
      · replace h := ie_at h c_2
        cases h
def f_J0_checkIndex_df160 (p0 : Int32) (p1 : Int32) (σ : Mem) : Option Mem :=
  bd (f_J3_checkIndex_8e157 p0 p1 σ) fun r_1 σ_2 =>
  some σ_2
set_option maxHeartbeats 4000000 in
set_option maxRecDepth 100000 in
theorem m_J0_checkIndex_df160 {T : List (Nat × Nat)} (l : Launch) (E : EV) (p0 : Int32) (p1 : Int32) (σ : Mem) (τ : Mem) (h : f_J0_checkIndex_df160 p0 p1 σ = some τ) : MV T l E yJ0_checkIndex_df160 cJ0_checkIndex_df160 2 none 1 22 [.int p0, .int p1] σ τ := by
  refine mt_start RJ0 (by decide +kernel) rfl (Nat.le_of_ble_eq_true rfl) (fun p e s m args below meth c ls C hw hl => ?_)
  replace hl : lv_has ls 2 [(0, .int p0), (1, .int p1)] := hl
  obtain ⟨hx, hb, hml, hown, hts, hK, hSt, hlk, hr⟩ := id C
  unfold f_J0_checkIndex_df160 at h
  refine lv_iload_n hx hb dJ0_checkIndex_df160_0 rfl (lv_at hl 0 rfl) ?_
  refine lv_iload_n hx hb dJ0_checkIndex_df160_1 rfl (lv_at hl 1 rfl) ?_
  refine q_formatter C hw kw_517 dJ0_checkIndex_df160_2 (fun fv hfv => ?_)
  obtain ⟨r_1, σ_2, h_3, h⟩ := bd_at h
  refine q_afterI hw (q_runS C hw hl.1 (As := [.int p0, .int p1, fv]) (rest := []) (m_J3_checkIndex_8e157 l E hfv p0 p1 σ r_1 σ_2 h_3) yq_J3_checkIndex_8e157 kw_559 ⟨Nat.le_of_ble_eq_true rfl, Nat.le_of_ble_eq_true rfl⟩ rfl (Nat.le_of_ble_eq_true rfl) ⟨Nat.zero_le _, Nat.zero_le _⟩ dJ0_checkIndex_df160_5) (fun H locs hw => ?_)
  refine lv_pop hx hb dJ0_checkIndex_df160_8 rfl ?_
  cases h
  exact q_vret C hw dJ0_checkIndex_df160_9
def f_J1_charAt_3b067 (w : Nat) (p1 : Int32) (σ : Mem) : Option (Int32 × Mem) :=
  bv (f_J0_checkIndex_df160 p1 (nI (lenS.getD w 0)) σ) fun σ_2 =>
  gd (ib p1 (lenS.getD w 0)) <|
  gd (ic ((((chS w p1.toNatClampNeg) &&& (255 : Int32)).toUInt32 % 65536).toInt32)) (some ((((chS w p1.toNatClampNeg) &&& (255 : Int32)).toUInt32 % 65536).toInt32, σ_2))
set_option maxHeartbeats 4000000 in
set_option maxRecDepth 100000 in
theorem m_J1_charAt_3b067 {T : List (Nat × Nat)} (l : Launch) (E : EV) (w : Nat) (hs : w < 11) (p1 : Int32) (σ : Mem) (rr : Int32) (τ : Mem) (h : f_J1_charAt_3b067 w p1 σ = some (rr, τ)) : MI T l E yJ1_charAt_3b067 cJ1_charAt_3b067 2 (some .char) 2 43 [.ref (E.2.2.2.2 (20 + w)), .int p1] σ rr τ := by
  refine mt_start RJ1 (by decide +kernel) rfl (Nat.le_of_ble_eq_true rfl) (fun p e s m args below meth c ls C hw hl => ?_)
  replace hl : lv_has ls 2 [(0, .ref (E.2.2.2.2 (20 + w))), (1, .int p1)] := hl
  obtain ⟨hx, hb, hml, hown, hts, hK, hSt, hlk, hr⟩ := id C
  unfold f_J1_charAt_3b067 at h
  refine lv_iload_n hx hb dJ1_charAt_3b067_0 rfl (lv_at hl 1 rfl) ?_
  refine lv_aload_n hx hb dJ1_charAt_3b067_1 rfl (lv_at hl 0 rfl) ?_
  refine q_slen C hw hs dJ1_charAt_3b067_2 ?_
  obtain ⟨σ_2, h_3, h⟩ := bv_at h
  refine q_afterV hw (q_runS C hw hl.1 (As := [.int p1, .int (nI (lenS.getD w 0))]) (rest := []) (m_J0_checkIndex_df160 l E p1 (nI (lenS.getD w 0)) σ σ_2 h_3) yq_J0_checkIndex_df160 kw_556 ⟨Nat.le_of_ble_eq_true rfl, Nat.le_of_ble_eq_true rfl⟩ rfl (Nat.le_of_ble_eq_true rfl) ⟨Nat.zero_le _, Nat.zero_le _⟩ dJ1_charAt_3b067_3) (fun H locs hw => ?_)
  refine lv_aload_n hx hb dJ1_charAt_3b067_6 rfl (lv_at hl 0 rfl) ?_
  refine lv_iload_n hx hb dJ1_charAt_3b067_7 rfl (lv_at hl 1 rfl) ?_
  obtain ⟨g_4, h⟩ := gd_at h
  refine q_sbld C hw hs g_4 dJ1_charAt_3b067_8 ?_
  refine lv_sipush (v := 255) hx hb dJ1_charAt_3b067_9 (by decide) ?_
  refine lv_iand hx hb dJ1_charAt_3b067_12 ?_
  refine lv_i2c hx hb dJ1_charAt_3b067_13 rfl ?_
  obtain ⟨g_5, h⟩ := gd_at h
  cases h
  exact q_cret C g_5 hw dJ1_charAt_3b067_14
def f_J0_charAt_5068e (w : Nat) (p1 : Int32) (σ : Mem) : Option (Int32 × Mem) :=
  bd (f_J0_isLatin1_aae02 w σ) fun r_1 σ_2 =>
  if r_1 = 0 then
    none
  else
    bd (f_J1_charAt_3b067 w p1 σ_2) fun r_5 σ_6 =>
    gd (ic r_5) (some (r_5, σ_6))
set_option maxHeartbeats 4000000 in
set_option maxRecDepth 100000 in
theorem m_J0_charAt_5068e {T : List (Nat × Nat)} (l : Launch) (E : EV) (w : Nat) (hs : w < 11) (p1 : Int32) (σ : Mem) (rr : Int32) (τ : Mem) (h : f_J0_charAt_5068e w p1 σ = some (rr, τ)) : MI T l E yJ0_charAt_5068e cJ0_charAt_5068e 2 (some .char) 3 64 [.ref (E.2.2.2.2 (2 + w)), .int p1] σ rr τ := by
  refine mt_start RJ0 (by decide +kernel) rfl (Nat.le_of_ble_eq_true rfl) (fun p e s m args below meth c ls C hw hl => ?_)
  replace hl : lv_has ls 2 [(0, .ref (E.2.2.2.2 (2 + w))), (1, .int p1)] := hl
  obtain ⟨hx, hb, hml, hown, hts, hK, hSt, hlk, hr⟩ := id C
  unfold f_J0_charAt_5068e at h
  refine lv_aload_n hx hb dJ0_charAt_5068e_0 rfl (lv_at hl 0 rfl) ?_
  obtain ⟨r_1, σ_2, h_3, h⟩ := bd_at h
  refine q_afterI hw (q_runW C hw hl.1 hs (As := []) (rest := []) (m_J0_isLatin1_aae02 l E w hs σ r_1 σ_2 h_3) yq_J0_isLatin1_aae02 rfl kw_470 ⟨Nat.le_of_ble_eq_true rfl, Nat.le_of_ble_eq_true rfl⟩ rfl (Nat.le_of_ble_eq_true rfl) ⟨Nat.zero_le _, Nat.zero_le _⟩ dJ0_charAt_5068e_1) (fun H locs hw => ?_)
  refine lv_if_eq (tgt := 16) hx hb dJ0_charAt_5068e_4 (by decide) (fun c_4 => ?_) (fun c_4 => ?_)
  · replace h := it_at h c_4
    refine lv_aload_n hx hb dJ0_charAt_5068e_16 rfl (lv_at hl 0 rfl) ?_
    refine q_sval C hw hs kw_1463 dJ0_charAt_5068e_17 ?_
    refine lv_iload_n hx hb dJ0_charAt_5068e_20 rfl (lv_at hl 1 rfl) ?_
    cases h
  · replace h := ie_at h c_4
    refine lv_aload_n hx hb dJ0_charAt_5068e_7 rfl (lv_at hl 0 rfl) ?_
    refine q_sval C hw hs kw_1463 dJ0_charAt_5068e_8 ?_
    refine lv_iload_n hx hb dJ0_charAt_5068e_11 rfl (lv_at hl 1 rfl) ?_
    obtain ⟨r_5, σ_6, h_7, h⟩ := bd_at h
    refine q_afterI hw (q_runS C hw hl.1 (As := [.ref (E.2.2.2.2 (20 + w)), .int p1]) (rest := []) (m_J1_charAt_3b067 l E w hs p1 σ_2 r_5 σ_6 h_7) yq_J1_charAt_3b067 kw_553 ⟨Nat.le_of_ble_eq_true rfl, Nat.le_of_ble_eq_true rfl⟩ rfl (Nat.le_of_ble_eq_true rfl) ⟨Nat.zero_le _, Nat.zero_le _⟩ dJ0_charAt_5068e_12) (fun H locs hw => ?_)
    obtain ⟨g_8, h⟩ := gd_at h
    cases h
    exact q_cret C g_8 hw dJ0_charAt_5068e_15
def f_X6_pass_20 (s0 : Int32) (σ : Mem) : Option (Int32 × Mem) :=
  if s0 = 0 then
    (gd (iz s0) (some (s0, σ)))
  else
    lt (sI σ 40 2 ((gI σ 40 2) + (1 : Int32))) fun σ_8 =>
    gd (iz s0) (some (s0, σ_8))
def f_X6_pass (p1 : Int32) (σ : Mem) : Option (Int32 × Mem) :=
  gd (decide (gI σ 40 0 = nI 3)) <|
  bd (f_X9_at (gI σ 40 2) σ) fun r_2 σ_3 =>
  if r_2 = p1 then
    (f_X6_pass_20 (1 : Int32) σ_3)
  else
    f_X6_pass_20 (0 : Int32) σ_3
set_option maxHeartbeats 4000000 in
set_option maxRecDepth 100000 in
theorem w_X6_pass_20 {p : Program} {l : Launch} {e : Env} {s : State} {m : MethodId} {args : Array Value} {below : List Frame} {meth : Method} {c : Code} {E : EV} {rr : Int32} {τ : Mem} (C : Cx E p s m args meth c cX6_pass 3 (some .boolean) RX6) : ∀ (s0 : Int32) (σ : Mem) (H : Heap) (locs : List Loc) (ls : Array Slot) (hw : Wd TC E σ s H locs) (hl : lv_has ls 3 [(0, .ref (E.2.1 (40)))]) (h : f_X6_pass_20 s0 σ = some (rr, τ)), W p l e { frames := 1, cells := 0, slots := 0, locals := 21 } s m args below meth c H locs 0 0 (MQ below (QI TC E rr τ) args s 0 0 E.2.2.1) (F0 m 20 ls [.int s0]) := by
  obtain ⟨hx, hb, hml, hown, hts, hK, hSt, hlk, hr⟩ := id C
  intro s0 σ H locs ls hw hl h
  unfold f_X6_pass_20 at h
  refine lv_istore_n (lv' := [(2, .int s0), (0, .ref (E.2.1 (40)))]) hx hb dX6_pass_20 rfl hl (by decide) rfl (fun ls hl => ?_)
  refine lv_iload_n hx hb dX6_pass_21 rfl (lv_at hl 0 rfl) ?_
  refine lv_if_eq (tgt := 35) hx hb dX6_pass_22 (by decide) (fun c_6 => ?_) (fun c_6 => ?_)
  · replace h := it_at h c_6
    refine lv_iload_n hx hb dX6_pass_35 rfl (lv_at hl 0 rfl) ?_
    obtain ⟨g_7, h⟩ := gd_at h
    obtain ⟨rfl, rfl⟩ := ret_at h
    exact q_zret C g_7 hw dX6_pass_36
  · replace h := ie_at h c_6
    refine lv_aload_n hx hb dX6_pass_25 rfl (lv_at hl 1 rfl) ?_
    refine lv_dup hx hb dX6_pass_26 rfl ?_
    refine gf_6_2 C hw tC_40 kw_278 dX6_pass_27 ?_
    refine lv_iconst (v := 1) hx hb dX6_pass_30 (by decide) ?_
    refine lv_iadd hx hb dX6_pass_31 ?_
    obtain ⟨σ_8, eσ_8, h⟩ := lt_at h
    refine pf_6_2 C hw tC_40 kw_278 eσ_8 dX6_pass_32 (fun H locs hw => ?_)
    refine lv_iload_n hx hb dX6_pass_35 rfl (lv_at hl 0 rfl) ?_
    obtain ⟨g_9, h⟩ := gd_at h
    obtain ⟨rfl, rfl⟩ := ret_at h
    exact q_zret C g_9 hw dX6_pass_36
set_option maxHeartbeats 4000000 in
set_option maxRecDepth 100000 in
theorem m_X6_pass (l : Launch) (E : EV) (p1 : Int32) (σ : Mem) (rr : Int32) (τ : Mem) (h : f_X6_pass p1 σ = some (rr, τ)) : MI TC l E yX6_pass cX6_pass 3 (some .boolean) 1 21 [.ref (E.2.1 (40)), .int p1] σ rr τ := by
  refine mt_start RX6 (by decide +kernel) rfl (Nat.le_of_ble_eq_true rfl) (fun p e s m args below meth c ls C hw hl => ?_)
  replace hl : lv_has ls 3 [(0, .ref (E.2.1 (40))), (1, .int p1)] := hl
  obtain ⟨hx, hb, hml, hown, hts, hK, hSt, hlk, hr⟩ := id C
  unfold f_X6_pass at h
  refine lv_aload_n hx hb dX6_pass_0 rfl (lv_at hl 0 rfl) ?_
  obtain ⟨g_1, h⟩ := gd_at h
  refine gf_6_0 C hw tC_40 kw_276 (c1 := 3) (by decide) (of_decide_eq_true g_1) dX6_pass_1 ?_
  refine lv_aload_n hx hb dX6_pass_4 rfl (lv_at hl 0 rfl) ?_
  refine gf_6_2 C hw tC_40 kw_278 dX6_pass_5 ?_
  obtain ⟨r_2, σ_3, h_4, h⟩ := bd_at h
  refine q_afterI hw (q_runV C hw hl.1 (As := [.int (gI σ 40 2)]) (rest := []) (m_X9_at l E (gI σ 40 2) σ r_2 σ_3 h_4) yq_X9_at tC_3 rfl rfl kw_458 ⟨Nat.le_of_ble_eq_true rfl, Nat.le_of_ble_eq_true rfl⟩ rfl (Nat.le_of_ble_eq_true rfl) ⟨Nat.zero_le _, Nat.zero_le _⟩ dX6_pass_8) (fun H locs hw => ?_)
  refine lv_iload_n hx hb dX6_pass_11 rfl (lv_at hl 1 rfl) ?_
  refine lv_icmp_ne (tgt := 19) hx hb dX6_pass_12 (by decide) (fun c_5 => ?_) (fun c_5 => ?_)
  · replace h := ie_at h c_5
    refine lv_iconst (v := 0) hx hb dX6_pass_19 (by decide) ?_
    exact w_X6_pass_20 C _ _ _ _ _ hw (lv_sub hl [0] rfl) h
  · replace h := it_at h c_5
    refine lv_iconst (v := 1) hx hb dX6_pass_15 (by decide) ?_
    refine lv_goto (tgt := 20) hx hb dX6_pass_16 (by decide) ?_
    exact w_X6_pass_20 C _ _ _ _ _ hw (lv_sub hl [0] rfl) h
def f_X6_digit (σ : Mem) : Option (Int32 × Mem) :=
  gd (decide (gI σ 40 0 = nI 3)) <|
  bd (f_X9_at (gI σ 40 2) σ) fun r_2 σ_3 =>
  if r_2 < (48 : Int32) then
    (some ((-1 : Int32), σ_3))
  else
    if (57 : Int32) < r_2 then
      (some ((-1 : Int32), σ_3))
    else
      some (r_2 - (48 : Int32), σ_3)
set_option maxHeartbeats 4000000 in
set_option maxRecDepth 100000 in
theorem m_X6_digit (l : Launch) (E : EV) (σ : Mem) (rr : Int32) (τ : Mem) (h : f_X6_digit  σ = some (rr, τ)) : MI TC l E yX6_digit cX6_digit 2 (some .int) 1 21 [.ref (E.2.1 (40))] σ rr τ := by
  refine mt_start RX6 (by decide +kernel) rfl (Nat.le_of_ble_eq_true rfl) (fun p e s m args below meth c ls C hw hl => ?_)
  replace hl : lv_has ls 2 [(0, .ref (E.2.1 (40)))] := hl
  obtain ⟨hx, hb, hml, hown, hts, hK, hSt, hlk, hr⟩ := id C
  unfold f_X6_digit at h
  refine lv_aload_n hx hb dX6_digit_0 rfl (lv_at hl 0 rfl) ?_
  obtain ⟨g_1, h⟩ := gd_at h
  refine gf_6_0 C hw tC_40 kw_276 (c1 := 3) (by decide) (of_decide_eq_true g_1) dX6_digit_1 ?_
  refine lv_aload_n hx hb dX6_digit_4 rfl (lv_at hl 0 rfl) ?_
  refine gf_6_2 C hw tC_40 kw_278 dX6_digit_5 ?_
  obtain ⟨r_2, σ_3, h_4, h⟩ := bd_at h
  refine q_afterI hw (q_runV C hw hl.1 (As := [.int (gI σ 40 2)]) (rest := []) (m_X9_at l E (gI σ 40 2) σ r_2 σ_3 h_4) yq_X9_at tC_3 rfl rfl kw_458 ⟨Nat.le_of_ble_eq_true rfl, Nat.le_of_ble_eq_true rfl⟩ rfl (Nat.le_of_ble_eq_true rfl) ⟨Nat.zero_le _, Nat.zero_le _⟩ dX6_digit_8) (fun H locs hw => ?_)
  refine lv_istore_n (lv' := [(1, .int r_2), (0, .ref (E.2.1 (40)))]) hx hb dX6_digit_11 rfl hl (by decide) rfl (fun ls hl => ?_)
  refine lv_iload_n hx hb dX6_digit_12 rfl (lv_at hl 0 rfl) ?_
  refine lv_bipush (v := 48) hx hb dX6_digit_13 (by decide) ?_
  refine lv_icmp_lt (tgt := 31) hx hb dX6_digit_15 (by decide) (fun c_5 => ?_) (fun c_5 => ?_)
  · replace h := it_at h c_5
    refine lv_iconst (v := (-1)) hx hb dX6_digit_31 (by decide) ?_
    obtain ⟨rfl, rfl⟩ := ret_at h
    exact q_iret C hw dX6_digit_32
  · replace h := ie_at h c_5
    refine lv_iload_n hx hb dX6_digit_18 rfl (lv_at hl 0 rfl) ?_
    refine lv_bipush (v := 57) hx hb dX6_digit_19 (by decide) ?_
    refine lv_icmp_gt (tgt := 31) hx hb dX6_digit_21 (by decide) (fun c_6 => ?_) (fun c_6 => ?_)
    · replace h := it_at h c_6
      refine lv_iconst (v := (-1)) hx hb dX6_digit_31 (by decide) ?_
      obtain ⟨rfl, rfl⟩ := ret_at h
      exact q_iret C hw dX6_digit_32
    · replace h := ie_at h c_6
      refine lv_iload_n hx hb dX6_digit_24 rfl (lv_at hl 0 rfl) ?_
      refine lv_bipush (v := 48) hx hb dX6_digit_25 (by decide) ?_
      refine lv_isub hx hb dX6_digit_27 ?_
      refine lv_goto (tgt := 32) hx hb dX6_digit_28 (by decide) ?_
      obtain ⟨rfl, rfl⟩ := ret_at h
      exact q_iret C hw dX6_digit_32
def f_X6_readNumber_33 (x1 : Int32) (s0 : Int32) (σ : Mem) : Option (Int32 × Mem) :=
  if 0 ≤ s0 then
    (lt (sI σ 40 2 ((gI σ 40 2) + (1 : Int32))) fun σ_11 =>
    some ((x1 * (10 : Int32)) + s0, σ_11))
  else
    some (x1, σ)
def f_X6_readNumber (σ : Mem) : Option (Int32 × Mem) :=
  bd (f_X6_digit σ) fun r_1 σ_2 =>
  if 0 ≤ r_1 then
    (lt (sI σ_2 40 2 ((gI σ_2 40 2) + (1 : Int32))) fun σ_5 =>
    if r_1 = 0 then
      (f_X6_readNumber_33 r_1 (-1 : Int32) σ_5)
    else
      bd (f_X6_digit σ_5) fun r_7 σ_8 =>
      f_X6_readNumber_33 r_1 r_7 σ_8)
  else
    some ((-1 : Int32), σ_2)
set_option maxHeartbeats 4000000 in
set_option maxRecDepth 100000 in
theorem w_X6_readNumber_33 {p : Program} {l : Launch} {e : Env} {s : State} {m : MethodId} {args : Array Value} {below : List Frame} {meth : Method} {c : Code} {E : EV} {rr : Int32} {τ : Mem} (C : Cx E p s m args meth c cX6_readNumber 3 (some .int) RX6) : ∀ (x1 : Int32) (s0 : Int32) (σ : Mem) (H : Heap) (locs : List Loc) (ls : Array Slot) (hw : Wd TC E σ s H locs) (hl : lv_has ls 3 [(0, .ref (E.2.1 (40))), (1, .int x1)]) (h : f_X6_readNumber_33 x1 s0 σ = some (rr, τ)), W p l e { frames := 2, cells := 0, slots := 0, locals := 42 } s m args below meth c H locs 0 0 (MQ below (QI TC E rr τ) args s 0 0 E.2.2.1) (F0 m 33 ls [.int s0]) := by
  obtain ⟨hx, hb, hml, hown, hts, hK, hSt, hlk, hr⟩ := id C
  intro x1 s0 σ H locs ls hw hl h
  unfold f_X6_readNumber_33 at h
  refine lv_istore_n (lv' := [(2, .int s0), (0, .ref (E.2.1 (40))), (1, .int x1)]) hx hb dX6_readNumber_33 rfl hl (by decide) rfl (fun ls hl => ?_)
  refine lv_iload_n hx hb dX6_readNumber_34 rfl (lv_at hl 0 rfl) ?_
  refine lv_if_ge (tgt := 40) hx hb dX6_readNumber_35 (by decide) (fun c_10 => ?_) (fun c_10 => ?_)
  · replace h := it_at h c_10
    refine lv_aload_n hx hb dX6_readNumber_40 rfl (lv_at hl 1 rfl) ?_
    refine lv_dup hx hb dX6_readNumber_41 rfl ?_
    refine gf_6_2 C hw tC_40 kw_278 dX6_readNumber_42 ?_
    refine lv_iconst (v := 1) hx hb dX6_readNumber_45 (by decide) ?_
    refine lv_iadd hx hb dX6_readNumber_46 ?_
    obtain ⟨σ_11, eσ_11, h⟩ := lt_at h
    refine pf_6_2 C hw tC_40 kw_278 eσ_11 dX6_readNumber_47 (fun H locs hw => ?_)
    refine lv_iload_n hx hb dX6_readNumber_50 rfl (lv_at hl 2 rfl) ?_
    refine lv_bipush (v := 10) hx hb dX6_readNumber_51 (by decide) ?_
    refine lv_imul hx hb dX6_readNumber_53 ?_
    refine lv_iload_n hx hb dX6_readNumber_54 rfl (lv_at hl 0 rfl) ?_
    refine lv_iadd hx hb dX6_readNumber_55 ?_
    obtain ⟨rfl, rfl⟩ := ret_at h
    exact q_iret C hw dX6_readNumber_56
  · replace h := ie_at h c_10
    refine lv_iload_n hx hb dX6_readNumber_38 rfl (lv_at hl 2 rfl) ?_
    obtain ⟨rfl, rfl⟩ := ret_at h
    exact q_iret C hw dX6_readNumber_39
set_option maxHeartbeats 4000000 in
set_option maxRecDepth 100000 in
theorem m_X6_readNumber (l : Launch) (E : EV) (σ : Mem) (rr : Int32) (τ : Mem) (h : f_X6_readNumber  σ = some (rr, τ)) : MI TC l E yX6_readNumber cX6_readNumber 3 (some .int) 2 42 [.ref (E.2.1 (40))] σ rr τ := by
  refine mt_start RX6 (by decide +kernel) rfl (Nat.le_of_ble_eq_true rfl) (fun p e s m args below meth c ls C hw hl => ?_)
  replace hl : lv_has ls 3 [(0, .ref (E.2.1 (40)))] := hl
  obtain ⟨hx, hb, hml, hown, hts, hK, hSt, hlk, hr⟩ := id C
  unfold f_X6_readNumber at h
  refine lv_aload_n hx hb dX6_readNumber_0 rfl (lv_at hl 0 rfl) ?_
  obtain ⟨r_1, σ_2, h_3, h⟩ := bd_at h
  refine q_afterI hw (q_runV C hw hl.1 (As := []) (rest := []) (m_X6_digit l E  σ r_1 σ_2 h_3) yq_X6_digit tC_40 rfl rfl kw_577 ⟨Nat.le_of_ble_eq_true rfl, Nat.le_of_ble_eq_true rfl⟩ rfl (Nat.le_of_ble_eq_true rfl) ⟨Nat.zero_le _, Nat.zero_le _⟩ dX6_readNumber_1) (fun H locs hw => ?_)
  refine lv_istore_n (lv' := [(1, .int r_1), (0, .ref (E.2.1 (40)))]) hx hb dX6_readNumber_4 rfl hl (by decide) rfl (fun ls hl => ?_)
  refine lv_iload_n hx hb dX6_readNumber_5 rfl (lv_at hl 0 rfl) ?_
  refine lv_if_ge (tgt := 11) hx hb dX6_readNumber_6 (by decide) (fun c_4 => ?_) (fun c_4 => ?_)
  · replace h := it_at h c_4
    refine lv_aload_n hx hb dX6_readNumber_11 rfl (lv_at hl 1 rfl) ?_
    refine lv_dup hx hb dX6_readNumber_12 rfl ?_
    refine gf_6_2 C hw tC_40 kw_278 dX6_readNumber_13 ?_
    refine lv_iconst (v := 1) hx hb dX6_readNumber_16 (by decide) ?_
    refine lv_iadd hx hb dX6_readNumber_17 ?_
    obtain ⟨σ_5, eσ_5, h⟩ := lt_at h
    refine pf_6_2 C hw tC_40 kw_278 eσ_5 dX6_readNumber_18 (fun H locs hw => ?_)
    refine lv_iload_n hx hb dX6_readNumber_21 rfl (lv_at hl 0 rfl) ?_
    refine lv_if_ne (tgt := 29) hx hb dX6_readNumber_22 (by decide) (fun c_6 => ?_) (fun c_6 => ?_)
    · replace h := ie_at h c_6
      refine lv_aload_n hx hb dX6_readNumber_29 rfl (lv_at hl 1 rfl) ?_
      obtain ⟨r_7, σ_8, h_9, h⟩ := bd_at h
      refine q_afterI hw (q_runV C hw hl.1 (As := []) (rest := []) (m_X6_digit l E  σ_5 r_7 σ_8 h_9) yq_X6_digit tC_40 rfl rfl kw_577 ⟨Nat.le_of_ble_eq_true rfl, Nat.le_of_ble_eq_true rfl⟩ rfl (Nat.le_of_ble_eq_true rfl) ⟨Nat.zero_le _, Nat.zero_le _⟩ dX6_readNumber_30) (fun H locs hw => ?_)
      exact w_X6_readNumber_33 C _ _ _ _ _ _ hw (lv_sub hl [1, 0] rfl) h
    · replace h := it_at h c_6
      refine lv_iconst (v := (-1)) hx hb dX6_readNumber_25 (by decide) ?_
      refine lv_goto (tgt := 33) hx hb dX6_readNumber_26 (by decide) ?_
      exact w_X6_readNumber_33 C _ _ _ _ _ _ hw (lv_sub hl [1, 0] rfl) h
  · replace h := ie_at h c_4
    refine lv_iconst (v := (-1)) hx hb dX6_readNumber_9 (by decide) ?_
    obtain ⟨rfl, rfl⟩ := ret_at h
    exact q_iret C hw dX6_readNumber_10
def f_X3_appendCode (o : Nat) (p1 : Int32) (σ : Mem) : Option Mem :=
  if (120 : Int32) ≤ (gI σ o 7) then
    (some σ)
  else
    gd (ib (gI σ o 7) 120) <|
    lt (sI σ (o + 4) (gI σ o 7).toNatClampNeg p1) fun σ_2 =>
    lt (sI σ_2 o 7 ((gI σ_2 o 7) + (1 : Int32))) fun σ_4 =>
    some σ_4
set_option maxHeartbeats 4000000 in
set_option maxRecDepth 100000 in
theorem m_X3_appendCode (l : Launch) (E : EV) (o : Nat) (ho : MO o) (p1 : Int32) (σ : Mem) (τ : Mem) (h : f_X3_appendCode o p1 σ = some τ) : MV TC l E yX3_appendCode cX3_appendCode 2 none 0 0 [.ref (E.2.1 o), .int p1] σ τ := by
  refine mt_start RX3 (by decide +kernel) rfl (Nat.le_of_ble_eq_true rfl) (fun p e s m args below meth c ls C hw hl => ?_)
  replace hl : lv_has ls 2 [(0, .ref (E.2.1 o)), (1, .int p1)] := hl
  obtain ⟨hx, hb, hml, hown, hts, hK, hSt, hlk, hr⟩ := id C
  unfold f_X3_appendCode at h
  refine lv_aload_n hx hb dX3_appendCode_0 rfl (lv_at hl 0 rfl) ?_
  refine gf_3_7 C hw (mo_T ho).1 kw_374 dX3_appendCode_1 ?_
  refine lv_aload_n hx hb dX3_appendCode_4 rfl (lv_at hl 0 rfl) ?_
  refine gf_3_3 C hw (mo_T ho).1 kw_370 (c1 := (o + 4)) rfl dX3_appendCode_5 ?_
  refine q_alen C hw (mo_T ho).2.2.2.2.1 (v := 120) rfl dX3_appendCode_8 ?_
  refine lv_icmp_ge (tgt := 32) hx hb dX3_appendCode_9 (by decide) (fun c_1 => ?_) (fun c_1 => ?_)
  · replace h := it_at h c_1
    cases h
    exact q_vret C hw dX3_appendCode_32
  · replace h := ie_at h c_1
    refine lv_aload_n hx hb dX3_appendCode_12 rfl (lv_at hl 0 rfl) ?_
    refine gf_3_3 C hw (mo_T ho).1 kw_370 (c1 := (o + 4)) rfl dX3_appendCode_13 ?_
    refine lv_aload_n hx hb dX3_appendCode_16 rfl (lv_at hl 0 rfl) ?_
    refine gf_3_7 C hw (mo_T ho).1 kw_374 dX3_appendCode_17 ?_
    refine lv_iload_n hx hb dX3_appendCode_20 rfl (lv_at hl 1 rfl) ?_
    obtain ⟨g_3, h⟩ := gd_at h
    obtain ⟨σ_2, eσ_2, h⟩ := lt_at h
    refine q_iast C hw (mo_T ho).2.2.2.2.1 g_3 eσ_2 dX3_appendCode_21 (fun H locs hw => ?_)
    refine lv_aload_n hx hb dX3_appendCode_22 rfl (lv_at hl 0 rfl) ?_
    refine lv_dup hx hb dX3_appendCode_23 rfl ?_
    refine gf_3_7 C hw (mo_T ho).1 kw_374 dX3_appendCode_24 ?_
    refine lv_iconst (v := 1) hx hb dX3_appendCode_27 (by decide) ?_
    refine lv_iadd hx hb dX3_appendCode_28 ?_
    obtain ⟨σ_4, eσ_4, h⟩ := lt_at h
    refine pf_3_7 C hw (mo_T ho).1 kw_374 eσ_4 dX3_appendCode_29 (fun H locs hw => ?_)
    cases h
    exact q_vret C hw dX3_appendCode_32
def f_X6_readTest (σ : Mem) : Option (Int32 × Mem) :=
  bd (f_X6_placeIn 2 σ) fun r_1 σ_2 =>
  if 0 ≤ r_1 then
    (lt (sI σ_2 40 2 ((gI σ_2 40 2) + (1 : Int32))) fun σ_5 =>
    bd (f_X6_placeIn 3 σ_5) fun r_6 σ_7 =>
    if 0 ≤ r_6 then
      (lt (sI σ_7 40 2 ((gI σ_7 40 2) + (1 : Int32))) fun σ_10 =>
      bd (f_X6_readNumber σ_10) fun r_11 σ_12 =>
      if 0 ≤ r_11 then
        (gd (im (gI σ_12 40 1)) <|
        bd (f_J0_length_8abf5 3 σ_12) fun r_16 σ_17 =>
        bv (f_X3_appendCode ((gI σ_12 40 1).toNatClampNeg) ((((r_1 * r_16) + r_6) * (100 : Int32)) + r_11) σ_17) fun σ_20 =>
        some ((1 : Int32), σ_20))
      else
        some ((0 : Int32), σ_12))
    else
      some ((0 : Int32), σ_7))
  else
    some ((0 : Int32), σ_2)
set_option maxHeartbeats 4000000 in
set_option maxRecDepth 100000 in
theorem m_X6_readTest (l : Launch) (E : EV) (σ : Mem) (rr : Int32) (τ : Mem) (h : f_X6_readTest  σ = some (rr, τ)) : MI TC l E yX6_readTest cX6_readTest 4 (some .boolean) 5 113 [.ref (E.2.1 (40))] σ rr τ := by
  refine mt_start RX6 (by decide +kernel) rfl (Nat.le_of_ble_eq_true rfl) (fun p e s m args below meth c ls C hw hl => ?_)
  replace hl : lv_has ls 4 [(0, .ref (E.2.1 (40)))] := hl
  obtain ⟨hx, hb, hml, hown, hts, hK, hSt, hlk, hr⟩ := id C
  unfold f_X6_readTest at h
  refine lv_aload_n hx hb dX6_readTest_0 rfl (lv_at hl 0 rfl) ?_
  refine q_ldcS C (tx := "wcshdf") (w := 2) (List.mem_of_getElem? (i := 2) rfl) dX6_readTest_1 ?_
  obtain ⟨r_1, σ_2, h_3, h⟩ := bd_at h
  refine q_afterI hw (q_runV C hw hl.1 (As := [.ref (E.2.2.2.2 (2 + 2))]) (rest := []) (m_X6_placeIn l E 2 (by decide) σ r_1 σ_2 h_3) yq_X6_placeIn tC_40 rfl rfl kw_454 ⟨Nat.le_of_ble_eq_true rfl, Nat.le_of_ble_eq_true rfl⟩ rfl (Nat.le_of_ble_eq_true rfl) ⟨Nat.zero_le _, Nat.zero_le _⟩ dX6_readTest_3) (fun H locs hw => ?_)
  refine lv_istore_n (lv' := [(1, .int r_1), (0, .ref (E.2.1 (40)))]) hx hb dX6_readTest_6 rfl hl (by decide) rfl (fun ls hl => ?_)
  refine lv_iload_n hx hb dX6_readTest_7 rfl (lv_at hl 0 rfl) ?_
  refine lv_if_ge (tgt := 13) hx hb dX6_readTest_8 (by decide) (fun c_4 => ?_) (fun c_4 => ?_)
  · replace h := it_at h c_4
    refine lv_aload_n hx hb dX6_readTest_13 rfl (lv_at hl 1 rfl) ?_
    refine lv_dup hx hb dX6_readTest_14 rfl ?_
    refine gf_6_2 C hw tC_40 kw_278 dX6_readTest_15 ?_
    refine lv_iconst (v := 1) hx hb dX6_readTest_18 (by decide) ?_
    refine lv_iadd hx hb dX6_readTest_19 ?_
    obtain ⟨σ_5, eσ_5, h⟩ := lt_at h
    refine pf_6_2 C hw tC_40 kw_278 eσ_5 dX6_readTest_20 (fun H locs hw => ?_)
    refine lv_aload_n hx hb dX6_readTest_23 rfl (lv_at hl 1 rfl) ?_
    refine q_ldcS C (tx := "<=>") (w := 3) (List.mem_of_getElem? (i := 3) rfl) dX6_readTest_24 ?_
    obtain ⟨r_6, σ_7, h_8, h⟩ := bd_at h
    refine q_afterI hw (q_runV C hw hl.1 (As := [.ref (E.2.2.2.2 (2 + 3))]) (rest := []) (m_X6_placeIn l E 3 (by decide) σ_5 r_6 σ_7 h_8) yq_X6_placeIn tC_40 rfl rfl kw_454 ⟨Nat.le_of_ble_eq_true rfl, Nat.le_of_ble_eq_true rfl⟩ rfl (Nat.le_of_ble_eq_true rfl) ⟨Nat.zero_le _, Nat.zero_le _⟩ dX6_readTest_26) (fun H locs hw => ?_)
    refine lv_istore_n (lv' := [(2, .int r_6), (1, .int r_1), (0, .ref (E.2.1 (40)))]) hx hb dX6_readTest_29 rfl hl (by decide) rfl (fun ls hl => ?_)
    refine lv_iload_n hx hb dX6_readTest_30 rfl (lv_at hl 0 rfl) ?_
    refine lv_if_ge (tgt := 36) hx hb dX6_readTest_31 (by decide) (fun c_9 => ?_) (fun c_9 => ?_)
    · replace h := it_at h c_9
      refine lv_aload_n hx hb dX6_readTest_36 rfl (lv_at hl 2 rfl) ?_
      refine lv_dup hx hb dX6_readTest_37 rfl ?_
      refine gf_6_2 C hw tC_40 kw_278 dX6_readTest_38 ?_
      refine lv_iconst (v := 1) hx hb dX6_readTest_41 (by decide) ?_
      refine lv_iadd hx hb dX6_readTest_42 ?_
      obtain ⟨σ_10, eσ_10, h⟩ := lt_at h
      refine pf_6_2 C hw tC_40 kw_278 eσ_10 dX6_readTest_43 (fun H locs hw => ?_)
      refine lv_aload_n hx hb dX6_readTest_46 rfl (lv_at hl 2 rfl) ?_
      obtain ⟨r_11, σ_12, h_13, h⟩ := bd_at h
      refine q_afterI hw (q_runV C hw hl.1 (As := []) (rest := []) (m_X6_readNumber l E  σ_10 r_11 σ_12 h_13) yq_X6_readNumber tC_40 rfl rfl kw_573 ⟨Nat.le_of_ble_eq_true rfl, Nat.le_of_ble_eq_true rfl⟩ rfl (Nat.le_of_ble_eq_true rfl) ⟨Nat.zero_le _, Nat.zero_le _⟩ dX6_readTest_47) (fun H locs hw => ?_)
      refine lv_istore_n (lv' := [(3, .int r_11), (2, .int r_6), (1, .int r_1), (0, .ref (E.2.1 (40)))]) hx hb dX6_readTest_50 rfl hl (by decide) rfl (fun ls hl => ?_)
      refine lv_iload_n hx hb dX6_readTest_51 rfl (lv_at hl 0 rfl) ?_
      refine lv_if_ge (tgt := 57) hx hb dX6_readTest_52 (by decide) (fun c_14 => ?_) (fun c_14 => ?_)
      · replace h := it_at h c_14
        refine lv_aload_n hx hb dX6_readTest_57 rfl (lv_at hl 3 rfl) ?_
        obtain ⟨g_15, h⟩ := gd_at h
        refine gm_6_1 C hw tC_40 kw_277 g_15 dX6_readTest_58 ?_
        refine lv_iload_n hx hb dX6_readTest_61 rfl (lv_at hl 2 rfl) ?_
        refine q_ldcS C (tx := "<=>") (w := 3) (List.mem_of_getElem? (i := 3) rfl) dX6_readTest_62 ?_
        obtain ⟨r_16, σ_17, h_18, h⟩ := bd_at h
        refine q_afterI hw (q_runW C hw hl.1 (by decide) (As := []) (rest := [.int r_1, .ref (E.2.1 ((gI σ_12 40 1).toNatClampNeg))]) (m_J0_length_8abf5 l E 3 (by decide) σ_12 r_16 σ_17 h_18) yq_J0_length_8abf5 rfl kw_599 ⟨Nat.le_of_ble_eq_true rfl, Nat.le_of_ble_eq_true rfl⟩ rfl (Nat.le_of_ble_eq_true rfl) ⟨Nat.zero_le _, Nat.zero_le _⟩ dX6_readTest_64) (fun H locs hw => ?_)
        refine lv_imul hx hb dX6_readTest_67 ?_
        refine lv_iload_n hx hb dX6_readTest_68 rfl (lv_at hl 1 rfl) ?_
        refine lv_iadd hx hb dX6_readTest_69 ?_
        refine lv_bipush (v := 100) hx hb dX6_readTest_70 (by decide) ?_
        refine lv_imul hx hb dX6_readTest_72 ?_
        refine lv_iload_n hx hb dX6_readTest_73 rfl (lv_at hl 0 rfl) ?_
        refine lv_iadd hx hb dX6_readTest_74 ?_
        obtain ⟨σ_20, h_21, h⟩ := bv_at h
        refine q_afterV hw (q_runV C hw hl.1 (As := [.int ((((r_1 * r_16) + r_6) * (100 : Int32)) + r_11)]) (rest := []) (m_X3_appendCode l E ((gI σ_12 40 1).toNatClampNeg) ((im_at g_15).1) ((((r_1 * r_16) + r_6) * (100 : Int32)) + r_11) σ_17 σ_20 h_21) yq_X3_appendCode (mo_T (im_at g_15).1).1 rfl rfl kw_600 ⟨Nat.le_of_ble_eq_true rfl, Nat.le_of_ble_eq_true rfl⟩ rfl (Nat.le_of_ble_eq_true rfl) ⟨Nat.zero_le _, Nat.zero_le _⟩ dX6_readTest_75) (fun H locs hw => ?_)
        refine lv_iconst (v := 1) hx hb dX6_readTest_78 (by decide) ?_
        obtain ⟨rfl, rfl⟩ := ret_at h
        exact q_zret C (by decide) hw dX6_readTest_79
      · replace h := ie_at h c_14
        refine lv_iconst (v := 0) hx hb dX6_readTest_55 (by decide) ?_
        obtain ⟨rfl, rfl⟩ := ret_at h
        exact q_zret C (by decide) hw dX6_readTest_56
    · replace h := ie_at h c_9
      refine lv_iconst (v := 0) hx hb dX6_readTest_34 (by decide) ?_
      obtain ⟨rfl, rfl⟩ := ret_at h
      exact q_zret C (by decide) hw dX6_readTest_35
  · replace h := ie_at h c_4
    refine lv_iconst (v := 0) hx hb dX6_readTest_11 (by decide) ?_
    obtain ⟨rfl, rfl⟩ := ret_at h
    exact q_zret C (by decide) hw dX6_readTest_12
def f_X6_readOne_69 (rc : Int32 → Mem → Option (Int32 × Mem)) (x1 : Int32) (x2 : Int32) (x3 : Int32) (σ : Mem) : Option (Int32 × Mem) :=
  if (irm (x2 - x1) (2 : Int32)) = (1 : Int32) then
    (gd (im (gI σ 40 1)) <|
    bv (f_X3_appendCode ((gI σ 40 1).toNatClampNeg) (-1 : Int32) σ) fun σ_27 =>
    gd (iz x3) (some (x3, σ_27)))
  else
    gd (iz x3) (some (x3, σ))
def f_X6_readOne_64 (rc : Int32 → Mem → Option (Int32 × Mem)) (x1 : Int32) (x2 : Int32) (σ : Mem) : Option (Int32 × Mem) :=
  bd (f_X6_readTest σ) fun r_20 σ_21 =>
  f_X6_readOne_69 rc x1 x2 r_20 σ_21
def f_X6_readOne_60 (rc : Int32 → Mem → Option (Int32 × Mem)) (x1 : Int32) (x2 : Int32) (s0 : Int32) (σ : Mem) : Option (Int32 × Mem) :=
  f_X6_readOne_69 rc x1 x2 s0 σ
def f_X6_readOne_59 (rc : Int32 → Mem → Option (Int32 × Mem)) (x1 : Int32) (x2 : Int32) (σ : Mem) : Option (Int32 × Mem) :=
  f_X6_readOne_60 rc x1 x2 (0 : Int32) σ
def f_X6_readOne_22 (rc : Int32 → Mem → Option (Int32 × Mem)) (x1 : Int32) (x2 : Int32) (σ : Mem) : Option (Int32 × Mem) :=
  if (5 : Int32) ≤ x2 then
    (f_X6_readOne_64 rc x1 x2 σ)
  else
    bd (f_X6_pass (40 : Int32) σ) fun r_8 σ_9 =>
    if r_8 = 0 then
      (f_X6_readOne_64 rc x1 x2 σ_9)
    else
      bd (rc (x2 + (1 : Int32)) σ_9) fun r_12 σ_13 =>
      if r_12 = 0 then
        (f_X6_readOne_59 rc x1 x2 σ_13)
      else
        bd (f_X6_pass (41 : Int32) σ_13) fun r_16 σ_17 =>
        if r_16 = 0 then
          (f_X6_readOne_59 rc x1 x2 σ_17)
        else
          f_X6_readOne_60 rc x1 x2 (1 : Int32) σ_17
def f_X6_readOne_2 (rc : Int32 → Mem → Option (Int32 × Mem)) (k2 : Int32 → Int32 → Mem → Option (Int32 × Mem)) (x1 : Int32) (x2 : Int32) (σ : Mem) : Option (Int32 × Mem) :=
  if (5 : Int32) ≤ x2 then
    (f_X6_readOne_22 rc x1 x2 σ)
  else
    bd (f_X6_pass (33 : Int32) σ) fun r_2 σ_3 =>
    if r_2 = 0 then
      (f_X6_readOne_22 rc x1 x2 σ_3)
    else
      lt (x2 + (1 : Int32)) fun x2_6 =>
      k2 x1 x2_6 σ_3
def f_X6_readOne (rc : Int32 → Mem → Option (Int32 × Mem)) (p1 : Int32) (σ : Mem) : Option (Int32 × Mem) :=
  fx3 (f_X6_readOne_2 rc) FU p1 p1 σ
set_option maxHeartbeats 4000000 in
set_option maxRecDepth 100000 in
theorem w_X6_readOne_69 {p : Program} {l : Launch} {e : Env} {s : State} {m : MethodId} {args : Array Value} {below : List Frame} {meth : Method} {c : Code} {E : EV} {rr : Int32} {τ : Mem} (C : Cx E p s m args meth c cX6_readOne 4 (some .boolean) RX6) {rc : Int32 → Mem → Option (Int32 × Mem)} {fr lo : Nat} (hF : 40 ≤ fr) (hL : 1200 ≤ lo) (hrc : ∀ (p1 : Int32) (σ : Mem) (rr : Int32) (τ : Mem), rc p1 σ = some (rr, τ) → MI TC l E yX6_readAny cX6_readAny 4 (some .boolean) fr lo [.ref (E.2.1 (40)), .int p1] σ rr τ) : ∀ (x1 : Int32) (x2 : Int32) (x3 : Int32) (σ : Mem) (H : Heap) (locs : List Loc) (ls : Array Slot) (hw : Wd TC E σ s H locs) (hl : lv_has ls 4 [(0, .ref (E.2.1 (40))), (1, .int x1), (2, .int x2), (3, .int x3)]) (h : f_X6_readOne_69 rc x1 x2 x3 σ = some (rr, τ)), W p l e { frames := fr + 1, cells := 0, slots := 0, locals := lo + 23 } s m args below meth c H locs 0 0 (MQ below (QI TC E rr τ) args s 0 0 E.2.2.1) (F0 m 69 ls []) := by
  obtain ⟨hx, hb, hml, hown, hts, hK, hSt, hlk, hr⟩ := id C
  intro x1 x2 x3 σ H locs ls hw hl h
  unfold f_X6_readOne_69 at h
  refine lv_iload_n hx hb dX6_readOne_69 rfl (lv_at hl 2 rfl) ?_
  refine lv_iload_n hx hb dX6_readOne_70 rfl (lv_at hl 1 rfl) ?_
  refine lv_isub hx hb dX6_readOne_71 ?_
  refine lv_iconst (v := 2) hx hb dX6_readOne_72 (by decide) ?_
  refine q_irem hx hb dX6_readOne_73 (by decide) ?_
  refine lv_iconst (v := 1) hx hb dX6_readOne_74 (by decide) ?_
  refine lv_icmp_ne (tgt := 86) hx hb dX6_readOne_75 (by decide) (fun c_23 => ?_) (fun c_23 => ?_)
  · replace h := ie_at h c_23
    refine lv_iload_n hx hb dX6_readOne_86 rfl (lv_at hl 3 rfl) ?_
    obtain ⟨g_24, h⟩ := gd_at h
    obtain ⟨rfl, rfl⟩ := ret_at h
    exact q_zret C g_24 hw dX6_readOne_87
  · replace h := it_at h c_23
    refine lv_aload_n hx hb dX6_readOne_78 rfl (lv_at hl 0 rfl) ?_
    obtain ⟨g_25, h⟩ := gd_at h
    refine gm_6_1 C hw tC_40 kw_277 g_25 dX6_readOne_79 ?_
    refine lv_iconst (v := (-1)) hx hb dX6_readOne_82 (by decide) ?_
    obtain ⟨σ_27, h_28, h⟩ := bv_at h
    refine q_afterV hw (q_runV C hw hl.1 (As := [.int (-1 : Int32)]) (rest := []) (m_X3_appendCode l E ((gI σ 40 1).toNatClampNeg) ((im_at g_25).1) (-1 : Int32) σ σ_27 h_28) yq_X3_appendCode (mo_T (im_at g_25).1).1 rfl rfl kw_600 ⟨by dsimp only; omega, by dsimp only; omega⟩ rfl (Nat.le_of_ble_eq_true rfl) ⟨Nat.zero_le _, Nat.zero_le _⟩ dX6_readOne_83) (fun H locs hw => ?_)
    refine lv_iload_n hx hb dX6_readOne_86 rfl (lv_at hl 3 rfl) ?_
    obtain ⟨g_29, h⟩ := gd_at h
    obtain ⟨rfl, rfl⟩ := ret_at h
    exact q_zret C g_29 hw dX6_readOne_87
set_option maxHeartbeats 4000000 in
set_option maxRecDepth 100000 in
theorem w_X6_readOne_64 {p : Program} {l : Launch} {e : Env} {s : State} {m : MethodId} {args : Array Value} {below : List Frame} {meth : Method} {c : Code} {E : EV} {rr : Int32} {τ : Mem} (C : Cx E p s m args meth c cX6_readOne 4 (some .boolean) RX6) {rc : Int32 → Mem → Option (Int32 × Mem)} {fr lo : Nat} (hF : 40 ≤ fr) (hL : 1200 ≤ lo) (hrc : ∀ (p1 : Int32) (σ : Mem) (rr : Int32) (τ : Mem), rc p1 σ = some (rr, τ) → MI TC l E yX6_readAny cX6_readAny 4 (some .boolean) fr lo [.ref (E.2.1 (40)), .int p1] σ rr τ) : ∀ (x1 : Int32) (x2 : Int32) (σ : Mem) (H : Heap) (locs : List Loc) (ls : Array Slot) (hw : Wd TC E σ s H locs) (hl : lv_has ls 4 [(0, .ref (E.2.1 (40))), (1, .int x1), (2, .int x2)]) (h : f_X6_readOne_64 rc x1 x2 σ = some (rr, τ)), W p l e { frames := fr + 1, cells := 0, slots := 0, locals := lo + 23 } s m args below meth c H locs 0 0 (MQ below (QI TC E rr τ) args s 0 0 E.2.2.1) (F0 m 64 ls []) := by
  obtain ⟨hx, hb, hml, hown, hts, hK, hSt, hlk, hr⟩ := id C
  intro x1 x2 σ H locs ls hw hl h
  unfold f_X6_readOne_64 at h
  refine lv_aload_n hx hb dX6_readOne_64 rfl (lv_at hl 0 rfl) ?_
  obtain ⟨r_20, σ_21, h_22, h⟩ := bd_at h
  refine q_afterI hw (q_runV C hw hl.1 (As := []) (rest := []) (m_X6_readTest l E  σ r_20 σ_21 h_22) yq_X6_readTest tC_40 rfl rfl kw_593 ⟨by dsimp only; omega, by dsimp only; omega⟩ rfl (Nat.le_of_ble_eq_true rfl) ⟨Nat.zero_le _, Nat.zero_le _⟩ dX6_readOne_65) (fun H locs hw => ?_)
  refine lv_istore_n (lv' := [(3, .int r_20), (0, .ref (E.2.1 (40))), (1, .int x1), (2, .int x2)]) hx hb dX6_readOne_68 rfl hl (by decide) rfl (fun ls hl => ?_)
  exact w_X6_readOne_69 C hF hL hrc _ _ _ _ _ _ _ hw (lv_sub hl [1, 2, 3, 0] rfl) h
set_option maxHeartbeats 4000000 in
set_option maxRecDepth 100000 in
theorem w_X6_readOne_60 {p : Program} {l : Launch} {e : Env} {s : State} {m : MethodId} {args : Array Value} {below : List Frame} {meth : Method} {c : Code} {E : EV} {rr : Int32} {τ : Mem} (C : Cx E p s m args meth c cX6_readOne 4 (some .boolean) RX6) {rc : Int32 → Mem → Option (Int32 × Mem)} {fr lo : Nat} (hF : 40 ≤ fr) (hL : 1200 ≤ lo) (hrc : ∀ (p1 : Int32) (σ : Mem) (rr : Int32) (τ : Mem), rc p1 σ = some (rr, τ) → MI TC l E yX6_readAny cX6_readAny 4 (some .boolean) fr lo [.ref (E.2.1 (40)), .int p1] σ rr τ) : ∀ (x1 : Int32) (x2 : Int32) (s0 : Int32) (σ : Mem) (H : Heap) (locs : List Loc) (ls : Array Slot) (hw : Wd TC E σ s H locs) (hl : lv_has ls 4 [(0, .ref (E.2.1 (40))), (1, .int x1), (2, .int x2)]) (h : f_X6_readOne_60 rc x1 x2 s0 σ = some (rr, τ)), W p l e { frames := fr + 1, cells := 0, slots := 0, locals := lo + 23 } s m args below meth c H locs 0 0 (MQ below (QI TC E rr τ) args s 0 0 E.2.2.1) (F0 m 60 ls [.int s0]) := by
  obtain ⟨hx, hb, hml, hown, hts, hK, hSt, hlk, hr⟩ := id C
  intro x1 x2 s0 σ H locs ls hw hl h
  unfold f_X6_readOne_60 at h
  refine lv_istore_n (lv' := [(3, .int s0), (0, .ref (E.2.1 (40))), (1, .int x1), (2, .int x2)]) hx hb dX6_readOne_60 rfl hl (by decide) rfl (fun ls hl => ?_)
  refine lv_goto (tgt := 69) hx hb dX6_readOne_61 (by decide) ?_
  exact w_X6_readOne_69 C hF hL hrc _ _ _ _ _ _ _ hw (lv_sub hl [1, 2, 3, 0] rfl) h
set_option maxHeartbeats 4000000 in
set_option maxRecDepth 100000 in
theorem w_X6_readOne_59 {p : Program} {l : Launch} {e : Env} {s : State} {m : MethodId} {args : Array Value} {below : List Frame} {meth : Method} {c : Code} {E : EV} {rr : Int32} {τ : Mem} (C : Cx E p s m args meth c cX6_readOne 4 (some .boolean) RX6) {rc : Int32 → Mem → Option (Int32 × Mem)} {fr lo : Nat} (hF : 40 ≤ fr) (hL : 1200 ≤ lo) (hrc : ∀ (p1 : Int32) (σ : Mem) (rr : Int32) (τ : Mem), rc p1 σ = some (rr, τ) → MI TC l E yX6_readAny cX6_readAny 4 (some .boolean) fr lo [.ref (E.2.1 (40)), .int p1] σ rr τ) : ∀ (x1 : Int32) (x2 : Int32) (σ : Mem) (H : Heap) (locs : List Loc) (ls : Array Slot) (hw : Wd TC E σ s H locs) (hl : lv_has ls 4 [(0, .ref (E.2.1 (40))), (1, .int x1), (2, .int x2)]) (h : f_X6_readOne_59 rc x1 x2 σ = some (rr, τ)), W p l e { frames := fr + 1, cells := 0, slots := 0, locals := lo + 23 } s m args below meth c H locs 0 0 (MQ below (QI TC E rr τ) args s 0 0 E.2.2.1) (F0 m 59 ls []) := by
  obtain ⟨hx, hb, hml, hown, hts, hK, hSt, hlk, hr⟩ := id C
  intro x1 x2 σ H locs ls hw hl h
  unfold f_X6_readOne_59 at h
  refine lv_iconst (v := 0) hx hb dX6_readOne_59 (by decide) ?_
  exact w_X6_readOne_60 C hF hL hrc _ _ _ _ _ _ _ hw (lv_sub hl [0, 1, 2] rfl) h
set_option maxHeartbeats 4000000 in
set_option maxRecDepth 100000 in
theorem w_X6_readOne_22 {p : Program} {l : Launch} {e : Env} {s : State} {m : MethodId} {args : Array Value} {below : List Frame} {meth : Method} {c : Code} {E : EV} {rr : Int32} {τ : Mem} (C : Cx E p s m args meth c cX6_readOne 4 (some .boolean) RX6) {rc : Int32 → Mem → Option (Int32 × Mem)} {fr lo : Nat} (hF : 40 ≤ fr) (hL : 1200 ≤ lo) (hrc : ∀ (p1 : Int32) (σ : Mem) (rr : Int32) (τ : Mem), rc p1 σ = some (rr, τ) → MI TC l E yX6_readAny cX6_readAny 4 (some .boolean) fr lo [.ref (E.2.1 (40)), .int p1] σ rr τ) : ∀ (x1 : Int32) (x2 : Int32) (σ : Mem) (H : Heap) (locs : List Loc) (ls : Array Slot) (hw : Wd TC E σ s H locs) (hl : lv_has ls 4 [(0, .ref (E.2.1 (40))), (1, .int x1), (2, .int x2)]) (h : f_X6_readOne_22 rc x1 x2 σ = some (rr, τ)), W p l e { frames := fr + 1, cells := 0, slots := 0, locals := lo + 23 } s m args below meth c H locs 0 0 (MQ below (QI TC E rr τ) args s 0 0 E.2.2.1) (F0 m 22 ls []) := by
  obtain ⟨hx, hb, hml, hown, hts, hK, hSt, hlk, hr⟩ := id C
  intro x1 x2 σ H locs ls hw hl h
  unfold f_X6_readOne_22 at h
  refine lv_iload_n hx hb dX6_readOne_22 rfl (lv_at hl 2 rfl) ?_
  refine lv_iconst (v := 5) hx hb dX6_readOne_23 (by decide) ?_
  refine lv_icmp_ge (tgt := 64) hx hb dX6_readOne_24 (by decide) (fun c_7 => ?_) (fun c_7 => ?_)
  · replace h := it_at h c_7
    exact w_X6_readOne_64 C hF hL hrc _ _ _ _ _ _ hw (lv_sub hl [0, 1, 2] rfl) h
  · replace h := ie_at h c_7
    refine lv_aload_n hx hb dX6_readOne_27 rfl (lv_at hl 0 rfl) ?_
    refine lv_bipush (v := 40) hx hb dX6_readOne_28 (by decide) ?_
    obtain ⟨r_8, σ_9, h_10, h⟩ := bd_at h
    refine q_afterI hw (q_runV C hw hl.1 (As := [.int (40 : Int32)]) (rest := []) (m_X6_pass l E (40 : Int32) σ r_8 σ_9 h_10) yq_X6_pass tC_40 rfl rfl kw_569 ⟨by dsimp only; omega, by dsimp only; omega⟩ rfl (Nat.le_of_ble_eq_true rfl) ⟨Nat.zero_le _, Nat.zero_le _⟩ dX6_readOne_30) (fun H locs hw => ?_)
    refine lv_if_eq (tgt := 64) hx hb dX6_readOne_33 (by decide) (fun c_11 => ?_) (fun c_11 => ?_)
    · replace h := it_at h c_11
      exact w_X6_readOne_64 C hF hL hrc _ _ _ _ _ _ hw (lv_sub hl [0, 1, 2] rfl) h
    · replace h := ie_at h c_11
      refine lv_aload_n hx hb dX6_readOne_36 rfl (lv_at hl 0 rfl) ?_
      refine lv_iload_n hx hb dX6_readOne_37 rfl (lv_at hl 2 rfl) ?_
      refine lv_iconst (v := 1) hx hb dX6_readOne_38 (by decide) ?_
      refine lv_iadd hx hb dX6_readOne_39 ?_
      obtain ⟨r_12, σ_13, h_14, h⟩ := bd_at h
      refine q_afterI hw (q_runV C hw hl.1 (As := [.int (x2 + (1 : Int32))]) (rest := []) (hrc (x2 + (1 : Int32)) σ_9 r_12 σ_13 h_14) yq_X6_readAny tC_40 rfl rfl kw_581 ⟨by dsimp only; omega, by dsimp only; omega⟩ rfl (Nat.le_of_ble_eq_true rfl) ⟨Nat.zero_le _, Nat.zero_le _⟩ dX6_readOne_40) (fun H locs hw => ?_)
      refine lv_if_eq (tgt := 59) hx hb dX6_readOne_43 (by decide) (fun c_15 => ?_) (fun c_15 => ?_)
      · replace h := it_at h c_15
        exact w_X6_readOne_59 C hF hL hrc _ _ _ _ _ _ hw (lv_sub hl [0, 1, 2] rfl) h
      · replace h := ie_at h c_15
        refine lv_aload_n hx hb dX6_readOne_46 rfl (lv_at hl 0 rfl) ?_
        refine lv_bipush (v := 41) hx hb dX6_readOne_47 (by decide) ?_
        obtain ⟨r_16, σ_17, h_18, h⟩ := bd_at h
        refine q_afterI hw (q_runV C hw hl.1 (As := [.int (41 : Int32)]) (rest := []) (m_X6_pass l E (41 : Int32) σ_13 r_16 σ_17 h_18) yq_X6_pass tC_40 rfl rfl kw_569 ⟨by dsimp only; omega, by dsimp only; omega⟩ rfl (Nat.le_of_ble_eq_true rfl) ⟨Nat.zero_le _, Nat.zero_le _⟩ dX6_readOne_49) (fun H locs hw => ?_)
        refine lv_if_eq (tgt := 59) hx hb dX6_readOne_52 (by decide) (fun c_19 => ?_) (fun c_19 => ?_)
        · replace h := it_at h c_19
          exact w_X6_readOne_59 C hF hL hrc _ _ _ _ _ _ hw (lv_sub hl [0, 1, 2] rfl) h
        · replace h := ie_at h c_19
          refine lv_iconst (v := 1) hx hb dX6_readOne_55 (by decide) ?_
          refine lv_goto (tgt := 60) hx hb dX6_readOne_56 (by decide) ?_
          exact w_X6_readOne_60 C hF hL hrc _ _ _ _ _ _ _ hw (lv_sub hl [0, 1, 2] rfl) h
set_option maxHeartbeats 4000000 in
set_option maxRecDepth 100000 in
theorem w_X6_readOne_2 {p : Program} {l : Launch} {e : Env} {s : State} {m : MethodId} {args : Array Value} {below : List Frame} {meth : Method} {c : Code} {E : EV} {rr : Int32} {τ : Mem} (C : Cx E p s m args meth c cX6_readOne 4 (some .boolean) RX6) {rc : Int32 → Mem → Option (Int32 × Mem)} {fr lo : Nat} (hF : 40 ≤ fr) (hL : 1200 ≤ lo) (hrc : ∀ (p1 : Int32) (σ : Mem) (rr : Int32) (τ : Mem), rc p1 σ = some (rr, τ) → MI TC l E yX6_readAny cX6_readAny 4 (some .boolean) fr lo [.ref (E.2.1 (40)), .int p1] σ rr τ) : ∀ (n : Nat) (x1 : Int32) (x2 : Int32) (σ : Mem) (H : Heap) (locs : List Loc) (ls : Array Slot) (hw : Wd TC E σ s H locs) (hl : lv_has ls 4 [(0, .ref (E.2.1 (40))), (1, .int x1), (2, .int x2)]) (h : fx3 (f_X6_readOne_2 rc) n x1 x2 σ = some (rr, τ)), W p l e { frames := fr + 1, cells := 0, slots := 0, locals := lo + 23 } s m args below meth c H locs 0 0 (MQ below (QI TC E rr τ) args s 0 0 E.2.2.1) (F0 m 2 ls []) := by
  obtain ⟨hx, hb, hml, hown, hts, hK, hSt, hlk, hr⟩ := id C
  intro n
  induction n with
  | zero =>
    intro x1 x2 σ H locs ls hw hl h
    have h : none = some (rr, τ) := h
    cases h
  | succ n hk2 =>
    intro x1 x2 σ H locs ls hw hl h
    replace h : f_X6_readOne_2 rc (fx3 (f_X6_readOne_2 rc) n) x1 x2 σ = some (rr, τ) := h
    unfold f_X6_readOne_2 at h
    refine lv_iload_n hx hb dX6_readOne_2 rfl (lv_at hl 2 rfl) ?_
    refine lv_iconst (v := 5) hx hb dX6_readOne_3 (by decide) ?_
    refine lv_icmp_ge (tgt := 22) hx hb dX6_readOne_4 (by decide) (fun c_1 => ?_) (fun c_1 => ?_)
    · replace h := it_at h c_1
      exact w_X6_readOne_22 C hF hL hrc _ _ _ _ _ _ hw (lv_sub hl [0, 1, 2] rfl) h
    · replace h := ie_at h c_1
      refine lv_aload_n hx hb dX6_readOne_7 rfl (lv_at hl 0 rfl) ?_
      refine lv_bipush (v := 33) hx hb dX6_readOne_8 (by decide) ?_
      obtain ⟨r_2, σ_3, h_4, h⟩ := bd_at h
      refine q_afterI hw (q_runV C hw hl.1 (As := [.int (33 : Int32)]) (rest := []) (m_X6_pass l E (33 : Int32) σ r_2 σ_3 h_4) yq_X6_pass tC_40 rfl rfl kw_569 ⟨by dsimp only; omega, by dsimp only; omega⟩ rfl (Nat.le_of_ble_eq_true rfl) ⟨Nat.zero_le _, Nat.zero_le _⟩ dX6_readOne_10) (fun H locs hw => ?_)
      refine lv_if_eq (tgt := 22) hx hb dX6_readOne_13 (by decide) (fun c_5 => ?_) (fun c_5 => ?_)
      · replace h := it_at h c_5
        exact w_X6_readOne_22 C hF hL hrc _ _ _ _ _ _ hw (lv_sub hl [0, 1, 2] rfl) h
      · replace h := ie_at h c_5
        obtain ⟨x2_6, ex2_6, h⟩ := lt_at h
        refine lv_iinc (v := x2_6) (lv' := [(2, .int x2_6), (0, .ref (E.2.1 (40))), (1, .int x1)]) hx hb dX6_readOne_16 hl (k := 2) rfl (by rw [ex2_6]; rfl) (by decide) rfl (fun ls hl => ?_)
        refine lv_goto (tgt := 2) hx hb dX6_readOne_19 (by decide) ?_
        exact hk2 _ _ _ _ _ _ hw (lv_sub hl [1, 2, 0] rfl) h
set_option maxHeartbeats 4000000 in
set_option maxRecDepth 100000 in
theorem m_X6_readOne (l : Launch) (E : EV) (rc : Int32 → Mem → Option (Int32 × Mem)) {fr lo : Nat} (hF : 40 ≤ fr) (hL : 1200 ≤ lo) (hrc : ∀ (p1 : Int32) (σ : Mem) (rr : Int32) (τ : Mem), rc p1 σ = some (rr, τ) → MI TC l E yX6_readAny cX6_readAny 4 (some .boolean) fr lo [.ref (E.2.1 (40)), .int p1] σ rr τ) (p1 : Int32) (σ : Mem) (rr : Int32) (τ : Mem) (h : f_X6_readOne rc p1 σ = some (rr, τ)) : MI TC l E yX6_readOne cX6_readOne 4 (some .boolean) (fr + 1) (lo + 23) [.ref (E.2.1 (40)), .int p1] σ rr τ := by
  refine mt_start RX6 (by decide +kernel) rfl (Nat.le_of_ble_eq_true rfl) (fun p e s m args below meth c ls C hw hl => ?_)
  replace hl : lv_has ls 4 [(0, .ref (E.2.1 (40))), (1, .int p1)] := hl
  obtain ⟨hx, hb, hml, hown, hts, hK, hSt, hlk, hr⟩ := id C
  unfold f_X6_readOne at h
  refine lv_iload_n hx hb dX6_readOne_0 rfl (lv_at hl 1 rfl) ?_
  refine lv_istore_n (lv' := [(2, .int p1), (0, .ref (E.2.1 (40))), (1, .int p1)]) hx hb dX6_readOne_1 rfl hl (by decide) rfl (fun ls hl => ?_)
  exact w_X6_readOne_2 C hF hL hrc _ _ _ _ _ _ _ hw (lv_sub hl [1, 2, 0] rfl) h
def f_X6_readAll_8 (rc : Int32 → Mem → Option (Int32 × Mem)) (k8 : Int32 → Int32 → Int32 → Mem → Option (Int32 × Mem)) (x1 : Int32) (x2 : Int32) (x3 : Int32) (σ : Mem) : Option (Int32 × Mem) :=
  if (120 : Int32) ≤ x3 then
    (gd (iz x2) (some (x2, σ)))
  else
    if x2 = 0 then
      (gd (iz x2) (some (x2, σ)))
    else
      bd (f_X6_pass (38 : Int32) σ) fun r_8 σ_9 =>
      if r_8 = 0 then
        (gd (iz x2) (some (x2, σ_9)))
      else
        bd (f_X6_readOne rc x1 σ_9) fun r_13 σ_14 =>
        gd (im (gI σ_14 40 1)) <|
        bv (f_X3_appendCode ((gI σ_14 40 1).toNatClampNeg) (-2 : Int32) σ_14) fun σ_18 =>
        lt (x3 + (1 : Int32)) fun x3_20 =>
        k8 x1 r_13 x3_20 σ_18
def f_X6_readAll (rc : Int32 → Mem → Option (Int32 × Mem)) (p1 : Int32) (σ : Mem) : Option (Int32 × Mem) :=
  bd (f_X6_readOne rc p1 σ) fun r_1 σ_2 =>
  fx4 (f_X6_readAll_8 rc) FU p1 r_1 (0 : Int32) σ_2
set_option maxHeartbeats 4000000 in
set_option maxRecDepth 100000 in
theorem w_X6_readAll_8 {p : Program} {l : Launch} {e : Env} {s : State} {m : MethodId} {args : Array Value} {below : List Frame} {meth : Method} {c : Code} {E : EV} {rr : Int32} {τ : Mem} (C : Cx E p s m args meth c cX6_readAll 4 (some .boolean) RX6) {rc : Int32 → Mem → Option (Int32 × Mem)} {fr lo : Nat} (hF : 40 ≤ fr) (hL : 1200 ≤ lo) (hrc : ∀ (p1 : Int32) (σ : Mem) (rr : Int32) (τ : Mem), rc p1 σ = some (rr, τ) → MI TC l E yX6_readAny cX6_readAny 4 (some .boolean) fr lo [.ref (E.2.1 (40)), .int p1] σ rr τ) : ∀ (n : Nat) (x1 : Int32) (x2 : Int32) (x3 : Int32) (σ : Mem) (H : Heap) (locs : List Loc) (ls : Array Slot) (hw : Wd TC E σ s H locs) (hl : lv_has ls 4 [(0, .ref (E.2.1 (40))), (1, .int x1), (2, .int x2), (3, .int x3)]) (h : fx4 (f_X6_readAll_8 rc) n x1 x2 x3 σ = some (rr, τ)), W p l e { frames := fr + 2, cells := 0, slots := 0, locals := lo + 46 } s m args below meth c H locs 0 0 (MQ below (QI TC E rr τ) args s 0 0 E.2.2.1) (F0 m 8 ls []) := by
  obtain ⟨hx, hb, hml, hown, hts, hK, hSt, hlk, hr⟩ := id C
  intro n
  induction n with
  | zero =>
    intro x1 x2 x3 σ H locs ls hw hl h
    have h : none = some (rr, τ) := h
    cases h
  | succ n hk8 =>
    intro x1 x2 x3 σ H locs ls hw hl h
    replace h : f_X6_readAll_8 rc (fx4 (f_X6_readAll_8 rc) n) x1 x2 x3 σ = some (rr, τ) := h
    unfold f_X6_readAll_8 at h
    refine lv_iload_n hx hb dX6_readAll_8 rfl (lv_at hl 3 rfl) ?_
    refine lv_bipush (v := 120) hx hb dX6_readAll_9 (by decide) ?_
    refine lv_icmp_ge (tgt := 48) hx hb dX6_readAll_11 (by decide) (fun c_4 => ?_) (fun c_4 => ?_)
    · replace h := it_at h c_4
      refine lv_iload_n hx hb dX6_readAll_48 rfl (lv_at hl 2 rfl) ?_
      obtain ⟨g_5, h⟩ := gd_at h
      obtain ⟨rfl, rfl⟩ := ret_at h
      exact q_zret C g_5 hw dX6_readAll_49
    · replace h := ie_at h c_4
      refine lv_iload_n hx hb dX6_readAll_14 rfl (lv_at hl 2 rfl) ?_
      refine lv_if_eq (tgt := 48) hx hb dX6_readAll_15 (by decide) (fun c_6 => ?_) (fun c_6 => ?_)
      · replace h := it_at h c_6
        refine lv_iload_n hx hb dX6_readAll_48 rfl (lv_at hl 2 rfl) ?_
        obtain ⟨g_7, h⟩ := gd_at h
        obtain ⟨rfl, rfl⟩ := ret_at h
        exact q_zret C g_7 hw dX6_readAll_49
      · replace h := ie_at h c_6
        refine lv_aload_n hx hb dX6_readAll_18 rfl (lv_at hl 0 rfl) ?_
        refine lv_bipush (v := 38) hx hb dX6_readAll_19 (by decide) ?_
        obtain ⟨r_8, σ_9, h_10, h⟩ := bd_at h
        refine q_afterI hw (q_runV C hw hl.1 (As := [.int (38 : Int32)]) (rest := []) (m_X6_pass l E (38 : Int32) σ r_8 σ_9 h_10) yq_X6_pass tC_40 rfl rfl kw_569 ⟨by dsimp only; omega, by dsimp only; omega⟩ rfl (Nat.le_of_ble_eq_true rfl) ⟨Nat.zero_le _, Nat.zero_le _⟩ dX6_readAll_21) (fun H locs hw => ?_)
        refine lv_if_eq (tgt := 48) hx hb dX6_readAll_24 (by decide) (fun c_11 => ?_) (fun c_11 => ?_)
        · replace h := it_at h c_11
          refine lv_iload_n hx hb dX6_readAll_48 rfl (lv_at hl 2 rfl) ?_
          obtain ⟨g_12, h⟩ := gd_at h
          obtain ⟨rfl, rfl⟩ := ret_at h
          exact q_zret C g_12 hw dX6_readAll_49
        · replace h := ie_at h c_11
          refine lv_aload_n hx hb dX6_readAll_27 rfl (lv_at hl 0 rfl) ?_
          refine lv_iload_n hx hb dX6_readAll_28 rfl (lv_at hl 1 rfl) ?_
          obtain ⟨r_13, σ_14, h_15, h⟩ := bd_at h
          refine q_afterI hw (q_runV C hw hl.1 (As := [.int x1]) (rest := []) (m_X6_readOne l E rc hF hL hrc x1 σ_9 r_13 σ_14 h_15) yq_X6_readOne tC_40 rfl rfl kw_589 ⟨by dsimp only; omega, by dsimp only; omega⟩ rfl (Nat.le_of_ble_eq_true rfl) ⟨Nat.zero_le _, Nat.zero_le _⟩ dX6_readAll_29) (fun H locs hw => ?_)
          refine lv_istore_n (lv' := [(2, .int r_13), (0, .ref (E.2.1 (40))), (1, .int x1), (3, .int x3)]) hx hb dX6_readAll_32 rfl hl (by decide) rfl (fun ls hl => ?_)
          refine lv_aload_n hx hb dX6_readAll_33 rfl (lv_at hl 1 rfl) ?_
          obtain ⟨g_16, h⟩ := gd_at h
          refine gm_6_1 C hw tC_40 kw_277 g_16 dX6_readAll_34 ?_
          refine lv_bipush (v := (-2)) hx hb dX6_readAll_37 (by decide) ?_
          obtain ⟨σ_18, h_19, h⟩ := bv_at h
          refine q_afterV hw (q_runV C hw hl.1 (As := [.int (-2 : Int32)]) (rest := []) (m_X3_appendCode l E ((gI σ_14 40 1).toNatClampNeg) ((im_at g_16).1) (-2 : Int32) σ_14 σ_18 h_19) yq_X3_appendCode (mo_T (im_at g_16).1).1 rfl rfl kw_600 ⟨by dsimp only; omega, by dsimp only; omega⟩ rfl (Nat.le_of_ble_eq_true rfl) ⟨Nat.zero_le _, Nat.zero_le _⟩ dX6_readAll_39) (fun H locs hw => ?_)
          obtain ⟨x3_20, ex3_20, h⟩ := lt_at h
          refine lv_iinc (v := x3_20) (lv' := [(3, .int x3_20), (2, .int r_13), (0, .ref (E.2.1 (40))), (1, .int x1)]) hx hb dX6_readAll_42 hl (k := 3) rfl (by rw [ex3_20]; rfl) (by decide) rfl (fun ls hl => ?_)
          refine lv_goto (tgt := 8) hx hb dX6_readAll_45 (by decide) ?_
          exact hk8 _ _ _ _ _ _ _ hw (lv_sub hl [2, 3, 1, 0] rfl) h
set_option maxHeartbeats 4000000 in
set_option maxRecDepth 100000 in
theorem m_X6_readAll (l : Launch) (E : EV) (rc : Int32 → Mem → Option (Int32 × Mem)) {fr lo : Nat} (hF : 40 ≤ fr) (hL : 1200 ≤ lo) (hrc : ∀ (p1 : Int32) (σ : Mem) (rr : Int32) (τ : Mem), rc p1 σ = some (rr, τ) → MI TC l E yX6_readAny cX6_readAny 4 (some .boolean) fr lo [.ref (E.2.1 (40)), .int p1] σ rr τ) (p1 : Int32) (σ : Mem) (rr : Int32) (τ : Mem) (h : f_X6_readAll rc p1 σ = some (rr, τ)) : MI TC l E yX6_readAll cX6_readAll 4 (some .boolean) (fr + 2) (lo + 46) [.ref (E.2.1 (40)), .int p1] σ rr τ := by
  refine mt_start RX6 (by decide +kernel) rfl (Nat.le_of_ble_eq_true rfl) (fun p e s m args below meth c ls C hw hl => ?_)
  replace hl : lv_has ls 4 [(0, .ref (E.2.1 (40))), (1, .int p1)] := hl
  obtain ⟨hx, hb, hml, hown, hts, hK, hSt, hlk, hr⟩ := id C
  unfold f_X6_readAll at h
  refine lv_aload_n hx hb dX6_readAll_0 rfl (lv_at hl 0 rfl) ?_
  refine lv_iload_n hx hb dX6_readAll_1 rfl (lv_at hl 1 rfl) ?_
  obtain ⟨r_1, σ_2, h_3, h⟩ := bd_at h
  refine q_afterI hw (q_runV C hw hl.1 (As := [.int p1]) (rest := []) (m_X6_readOne l E rc hF hL hrc p1 σ r_1 σ_2 h_3) yq_X6_readOne tC_40 rfl rfl kw_589 ⟨by dsimp only; omega, by dsimp only; omega⟩ rfl (Nat.le_of_ble_eq_true rfl) ⟨Nat.zero_le _, Nat.zero_le _⟩ dX6_readAll_2) (fun H locs hw => ?_)
  refine lv_istore_n (lv' := [(2, .int r_1), (0, .ref (E.2.1 (40))), (1, .int p1)]) hx hb dX6_readAll_5 rfl hl (by decide) rfl (fun ls hl => ?_)
  refine lv_iconst (v := 0) hx hb dX6_readAll_6 (by decide) ?_
  refine lv_istore_n (lv' := [(3, .int (0 : Int32)), (2, .int r_1), (0, .ref (E.2.1 (40))), (1, .int p1)]) hx hb dX6_readAll_7 rfl hl (by decide) rfl (fun ls hl => ?_)
  exact w_X6_readAll_8 C hF hL hrc _ _ _ _ _ _ _ _ hw (lv_sub hl [2, 3, 1, 0] rfl) h
def f_X6_readAny_8 (rc : Int32 → Mem → Option (Int32 × Mem)) (k8 : Int32 → Int32 → Int32 → Mem → Option (Int32 × Mem)) (x1 : Int32) (x2 : Int32) (x3 : Int32) (σ : Mem) : Option (Int32 × Mem) :=
  if (120 : Int32) ≤ x3 then
    (gd (iz x2) (some (x2, σ)))
  else
    if x2 = 0 then
      (gd (iz x2) (some (x2, σ)))
    else
      bd (f_X6_pass (124 : Int32) σ) fun r_8 σ_9 =>
      if r_8 = 0 then
        (gd (iz x2) (some (x2, σ_9)))
      else
        bd (f_X6_readAll rc x1 σ_9) fun r_13 σ_14 =>
        gd (im (gI σ_14 40 1)) <|
        bv (f_X3_appendCode ((gI σ_14 40 1).toNatClampNeg) (-3 : Int32) σ_14) fun σ_18 =>
        lt (x3 + (1 : Int32)) fun x3_20 =>
        k8 x1 r_13 x3_20 σ_18
def f_X6_readAny_F (rc : Int32 → Mem → Option (Int32 × Mem)) (p1 : Int32) (σ : Mem) : Option (Int32 × Mem) :=
  bd (f_X6_readAll rc p1 σ) fun r_1 σ_2 =>
  fx4 (f_X6_readAny_8 rc) FU p1 r_1 (0 : Int32) σ_2
def f_X6_readAny (p1 : Int32) (σ : Mem) : Option (Int32 × Mem) := fx2 f_X6_readAny_F 16 p1 σ
set_option maxHeartbeats 4000000 in
set_option maxRecDepth 100000 in
theorem w_X6_readAny_8 {p : Program} {l : Launch} {e : Env} {s : State} {m : MethodId} {args : Array Value} {below : List Frame} {meth : Method} {c : Code} {E : EV} {rr : Int32} {τ : Mem} (C : Cx E p s m args meth c cX6_readAny 4 (some .boolean) RX6) {rc : Int32 → Mem → Option (Int32 × Mem)} {fr lo : Nat} (hF : 40 ≤ fr) (hL : 1200 ≤ lo) (hrc : ∀ (p1 : Int32) (σ : Mem) (rr : Int32) (τ : Mem), rc p1 σ = some (rr, τ) → MI TC l E yX6_readAny cX6_readAny 4 (some .boolean) fr lo [.ref (E.2.1 (40)), .int p1] σ rr τ) : ∀ (n : Nat) (x1 : Int32) (x2 : Int32) (x3 : Int32) (σ : Mem) (H : Heap) (locs : List Loc) (ls : Array Slot) (hw : Wd TC E σ s H locs) (hl : lv_has ls 4 [(0, .ref (E.2.1 (40))), (1, .int x1), (2, .int x2), (3, .int x3)]) (h : fx4 (f_X6_readAny_8 rc) n x1 x2 x3 σ = some (rr, τ)), W p l e { frames := fr + 3, cells := 0, slots := 0, locals := lo + 69 } s m args below meth c H locs 0 0 (MQ below (QI TC E rr τ) args s 0 0 E.2.2.1) (F0 m 8 ls []) := by
  obtain ⟨hx, hb, hml, hown, hts, hK, hSt, hlk, hr⟩ := id C
  intro n
  induction n with
  | zero =>
    intro x1 x2 x3 σ H locs ls hw hl h
    have h : none = some (rr, τ) := h
    cases h
  | succ n hk8 =>
    intro x1 x2 x3 σ H locs ls hw hl h
    replace h : f_X6_readAny_8 rc (fx4 (f_X6_readAny_8 rc) n) x1 x2 x3 σ = some (rr, τ) := h
    unfold f_X6_readAny_8 at h
    refine lv_iload_n hx hb dX6_readAny_8 rfl (lv_at hl 3 rfl) ?_
    refine lv_bipush (v := 120) hx hb dX6_readAny_9 (by decide) ?_
    refine lv_icmp_ge (tgt := 48) hx hb dX6_readAny_11 (by decide) (fun c_4 => ?_) (fun c_4 => ?_)
    · replace h := it_at h c_4
      refine lv_iload_n hx hb dX6_readAny_48 rfl (lv_at hl 2 rfl) ?_
      obtain ⟨g_5, h⟩ := gd_at h
      obtain ⟨rfl, rfl⟩ := ret_at h
      exact q_zret C g_5 hw dX6_readAny_49
    · replace h := ie_at h c_4
      refine lv_iload_n hx hb dX6_readAny_14 rfl (lv_at hl 2 rfl) ?_
      refine lv_if_eq (tgt := 48) hx hb dX6_readAny_15 (by decide) (fun c_6 => ?_) (fun c_6 => ?_)
      · replace h := it_at h c_6
        refine lv_iload_n hx hb dX6_readAny_48 rfl (lv_at hl 2 rfl) ?_
        obtain ⟨g_7, h⟩ := gd_at h
        obtain ⟨rfl, rfl⟩ := ret_at h
        exact q_zret C g_7 hw dX6_readAny_49
      · replace h := ie_at h c_6
        refine lv_aload_n hx hb dX6_readAny_18 rfl (lv_at hl 0 rfl) ?_
        refine lv_bipush (v := 124) hx hb dX6_readAny_19 (by decide) ?_
        obtain ⟨r_8, σ_9, h_10, h⟩ := bd_at h
        refine q_afterI hw (q_runV C hw hl.1 (As := [.int (124 : Int32)]) (rest := []) (m_X6_pass l E (124 : Int32) σ r_8 σ_9 h_10) yq_X6_pass tC_40 rfl rfl kw_569 ⟨by dsimp only; omega, by dsimp only; omega⟩ rfl (Nat.le_of_ble_eq_true rfl) ⟨Nat.zero_le _, Nat.zero_le _⟩ dX6_readAny_21) (fun H locs hw => ?_)
        refine lv_if_eq (tgt := 48) hx hb dX6_readAny_24 (by decide) (fun c_11 => ?_) (fun c_11 => ?_)
        · replace h := it_at h c_11
          refine lv_iload_n hx hb dX6_readAny_48 rfl (lv_at hl 2 rfl) ?_
          obtain ⟨g_12, h⟩ := gd_at h
          obtain ⟨rfl, rfl⟩ := ret_at h
          exact q_zret C g_12 hw dX6_readAny_49
        · replace h := ie_at h c_11
          refine lv_aload_n hx hb dX6_readAny_27 rfl (lv_at hl 0 rfl) ?_
          refine lv_iload_n hx hb dX6_readAny_28 rfl (lv_at hl 1 rfl) ?_
          obtain ⟨r_13, σ_14, h_15, h⟩ := bd_at h
          refine q_afterI hw (q_runV C hw hl.1 (As := [.int x1]) (rest := []) (m_X6_readAll l E rc hF hL hrc x1 σ_9 r_13 σ_14 h_15) yq_X6_readAll tC_40 rfl rfl kw_585 ⟨by dsimp only; omega, by dsimp only; omega⟩ rfl (Nat.le_of_ble_eq_true rfl) ⟨Nat.zero_le _, Nat.zero_le _⟩ dX6_readAny_29) (fun H locs hw => ?_)
          refine lv_istore_n (lv' := [(2, .int r_13), (0, .ref (E.2.1 (40))), (1, .int x1), (3, .int x3)]) hx hb dX6_readAny_32 rfl hl (by decide) rfl (fun ls hl => ?_)
          refine lv_aload_n hx hb dX6_readAny_33 rfl (lv_at hl 1 rfl) ?_
          obtain ⟨g_16, h⟩ := gd_at h
          refine gm_6_1 C hw tC_40 kw_277 g_16 dX6_readAny_34 ?_
          refine lv_bipush (v := (-3)) hx hb dX6_readAny_37 (by decide) ?_
          obtain ⟨σ_18, h_19, h⟩ := bv_at h
          refine q_afterV hw (q_runV C hw hl.1 (As := [.int (-3 : Int32)]) (rest := []) (m_X3_appendCode l E ((gI σ_14 40 1).toNatClampNeg) ((im_at g_16).1) (-3 : Int32) σ_14 σ_18 h_19) yq_X3_appendCode (mo_T (im_at g_16).1).1 rfl rfl kw_600 ⟨by dsimp only; omega, by dsimp only; omega⟩ rfl (Nat.le_of_ble_eq_true rfl) ⟨Nat.zero_le _, Nat.zero_le _⟩ dX6_readAny_39) (fun H locs hw => ?_)
          obtain ⟨x3_20, ex3_20, h⟩ := lt_at h
          refine lv_iinc (v := x3_20) (lv' := [(3, .int x3_20), (2, .int r_13), (0, .ref (E.2.1 (40))), (1, .int x1)]) hx hb dX6_readAny_42 hl (k := 3) rfl (by rw [ex3_20]; rfl) (by decide) rfl (fun ls hl => ?_)
          refine lv_goto (tgt := 8) hx hb dX6_readAny_45 (by decide) ?_
          exact hk8 _ _ _ _ _ _ _ hw (lv_sub hl [2, 3, 1, 0] rfl) h
set_option maxHeartbeats 4000000 in
set_option maxRecDepth 100000 in
theorem m_X6_readAny_F (l : Launch) (E : EV) (rc : Int32 → Mem → Option (Int32 × Mem)) {fr lo : Nat} (hF : 40 ≤ fr) (hL : 1200 ≤ lo) (hrc : ∀ (p1 : Int32) (σ : Mem) (rr : Int32) (τ : Mem), rc p1 σ = some (rr, τ) → MI TC l E yX6_readAny cX6_readAny 4 (some .boolean) fr lo [.ref (E.2.1 (40)), .int p1] σ rr τ) (p1 : Int32) (σ : Mem) (rr : Int32) (τ : Mem) (h : f_X6_readAny_F rc p1 σ = some (rr, τ)) : MI TC l E yX6_readAny cX6_readAny 4 (some .boolean) (fr + 3) (lo + 69) [.ref (E.2.1 (40)), .int p1] σ rr τ := by
  refine mt_start RX6 (by decide +kernel) rfl (Nat.le_of_ble_eq_true rfl) (fun p e s m args below meth c ls C hw hl => ?_)
  replace hl : lv_has ls 4 [(0, .ref (E.2.1 (40))), (1, .int p1)] := hl
  obtain ⟨hx, hb, hml, hown, hts, hK, hSt, hlk, hr⟩ := id C
  unfold f_X6_readAny_F at h
  refine lv_aload_n hx hb dX6_readAny_0 rfl (lv_at hl 0 rfl) ?_
  refine lv_iload_n hx hb dX6_readAny_1 rfl (lv_at hl 1 rfl) ?_
  obtain ⟨r_1, σ_2, h_3, h⟩ := bd_at h
  refine q_afterI hw (q_runV C hw hl.1 (As := [.int p1]) (rest := []) (m_X6_readAll l E rc hF hL hrc p1 σ r_1 σ_2 h_3) yq_X6_readAll tC_40 rfl rfl kw_585 ⟨by dsimp only; omega, by dsimp only; omega⟩ rfl (Nat.le_of_ble_eq_true rfl) ⟨Nat.zero_le _, Nat.zero_le _⟩ dX6_readAny_2) (fun H locs hw => ?_)
  refine lv_istore_n (lv' := [(2, .int r_1), (0, .ref (E.2.1 (40))), (1, .int p1)]) hx hb dX6_readAny_5 rfl hl (by decide) rfl (fun ls hl => ?_)
  refine lv_iconst (v := 0) hx hb dX6_readAny_6 (by decide) ?_
  refine lv_istore_n (lv' := [(3, .int (0 : Int32)), (2, .int r_1), (0, .ref (E.2.1 (40))), (1, .int p1)]) hx hb dX6_readAny_7 rfl hl (by decide) rfl (fun ls hl => ?_)
  exact w_X6_readAny_8 C hF hL hrc _ _ _ _ _ _ _ _ hw (lv_sub hl [2, 3, 1, 0] rfl) h
theorem md_X6_readAny (l : Launch) (E : EV) : ∀ (d : Nat) (p1 : Int32) (σ : Mem) (rr : Int32) (τ : Mem), fx2 f_X6_readAny_F d p1 σ = some (rr, τ) → MI TC l E yX6_readAny cX6_readAny 4 (some .boolean) (40 + 3 * d) (1200 + 69 * d) [.ref (E.2.1 (40)), .int p1] σ rr τ := by
  intro d
  induction d with
  | zero =>
    intro p1 σ rr τ h
    have h : none = some (rr, τ) := h
    cases h
  | succ n ih =>
    intro p1 σ rr τ h
    have e1 : 40 + 3 * (n + 1) = (40 + 3 * n) + 3 := by omega
    have e2 : 1200 + 69 * (n + 1) = (1200 + 69 * n) + 69 := by omega
    rw [e1, e2]
    exact m_X6_readAny_F l E (rc := fx2 f_X6_readAny_F n) (fr := 40 + 3 * n) (lo := 1200 + 69 * n) (by omega) (by omega) ih p1 σ rr τ h
theorem m_X6_readAny (l : Launch) (E : EV) (p1 : Int32) (σ : Mem) (rr : Int32) (τ : Mem) (h : f_X6_readAny p1 σ = some (rr, τ)) : MI TC l E yX6_readAny cX6_readAny 4 (some .boolean) 88 2304 [.ref (E.2.1 (40)), .int p1] σ rr τ := md_X6_readAny l E 16 p1 σ rr τ h
def f_X6_readOnex (p1 : Int32) (σ : Mem) : Option (Int32 × Mem) := f_X6_readOne f_X6_readAny p1 σ
theorem m_X6_readOnex (l : Launch) (E : EV) (p1 : Int32) (σ : Mem) (rr : Int32) (τ : Mem) (h : f_X6_readOnex p1 σ = some (rr, τ)) : MI TC l E yX6_readOne cX6_readOne 4 (some .boolean) 89 2327 [.ref (E.2.1 (40)), .int p1] σ rr τ := m_X6_readOne l E (rc := f_X6_readAny) (fr := 88) (lo := 2304) (by decide) (by decide) (m_X6_readAny l E) p1 σ rr τ h
def f_X6_readAllx (p1 : Int32) (σ : Mem) : Option (Int32 × Mem) := f_X6_readAll f_X6_readAny p1 σ
theorem m_X6_readAllx (l : Launch) (E : EV) (p1 : Int32) (σ : Mem) (rr : Int32) (τ : Mem) (h : f_X6_readAllx p1 σ = some (rr, τ)) : MI TC l E yX6_readAll cX6_readAll 4 (some .boolean) 90 2350 [.ref (E.2.1 (40)), .int p1] σ rr τ := m_X6_readAll l E (rc := f_X6_readAny) (fr := 88) (lo := 2304) (by decide) (by decide) (m_X6_readAny l E) p1 σ rr τ h
def f_X3_appendClause (o : Nat) (p1 : Int32) (p2 : Int32) (σ : Mem) : Option Mem :=
  if p1 = (4 : Int32) then
    (lt (sI σ o 8 p2) fun σ_14 =>
    some σ_14)
  else
    if p1 = (5 : Int32) then
      (lt (sI σ o 9 p2) fun σ_13 =>
      some σ_13)
    else
      if p1 ≤ (5 : Int32) then
        (if (10 : Int32) ≤ (gI σ o 6) then
          (some σ)
        else
          gd (ib (gI σ o 6) 10) <|
          lt (sI σ (o + 1) (gI σ o 6).toNatClampNeg p1) fun σ_5 =>
          gd (ib (gI σ_5 o 6) 10) <|
          lt (sI σ_5 (o + 2) (gI σ_5 o 6).toNatClampNeg p2) fun σ_7 =>
          gd (ib (gI σ_7 o 6) 10) <|
          lt (sI σ_7 (o + 3) (gI σ_7 o 6).toNatClampNeg (gI σ_7 o 7)) fun σ_9 =>
          lt (sI σ_9 o 6 ((gI σ_9 o 6) + (1 : Int32))) fun σ_11 =>
          some σ_11)
      else
        lt (sI σ o 10 p2) fun σ_12 =>
        some σ_12
set_option maxHeartbeats 4000000 in
set_option maxRecDepth 100000 in
theorem m_X3_appendClause (l : Launch) (E : EV) (o : Nat) (ho : MO o) (p1 : Int32) (p2 : Int32) (σ : Mem) (τ : Mem) (h : f_X3_appendClause o p1 p2 σ = some τ) : MV TC l E yX3_appendClause cX3_appendClause 3 none 0 0 [.ref (E.2.1 o), .int p1, .int p2] σ τ := by
  refine mt_start RX3 (by decide +kernel) rfl (Nat.le_of_ble_eq_true rfl) (fun p e s m args below meth c ls C hw hl => ?_)
  replace hl : lv_has ls 3 [(0, .ref (E.2.1 o)), (1, .int p1), (2, .int p2)] := hl
  obtain ⟨hx, hb, hml, hown, hts, hK, hSt, hlk, hr⟩ := id C
  unfold f_X3_appendClause at h
  refine lv_iload_n hx hb dX3_appendClause_0 rfl (lv_at hl 1 rfl) ?_
  refine lv_iconst (v := 4) hx hb dX3_appendClause_1 (by decide) ?_
  refine lv_icmp_ne (tgt := 13) hx hb dX3_appendClause_2 (by decide) (fun c_1 => ?_) (fun c_1 => ?_)
  · replace h := ie_at h c_1
    refine lv_iload_n hx hb dX3_appendClause_13 rfl (lv_at hl 1 rfl) ?_
    refine lv_iconst (v := 5) hx hb dX3_appendClause_14 (by decide) ?_
    refine lv_icmp_ne (tgt := 26) hx hb dX3_appendClause_15 (by decide) (fun c_2 => ?_) (fun c_2 => ?_)
    · replace h := ie_at h c_2
      refine lv_iload_n hx hb dX3_appendClause_26 rfl (lv_at hl 1 rfl) ?_
      refine lv_iconst (v := 5) hx hb dX3_appendClause_27 (by decide) ?_
      refine lv_icmp_le (tgt := 39) hx hb dX3_appendClause_28 (by decide) (fun c_3 => ?_) (fun c_3 => ?_)
      · replace h := it_at h c_3
        refine lv_aload_n hx hb dX3_appendClause_39 rfl (lv_at hl 0 rfl) ?_
        refine gf_3_6 C hw (mo_T ho).1 kw_373 dX3_appendClause_40 ?_
        refine lv_bipush (v := 10) hx hb dX3_appendClause_43 (by decide) ?_
        refine lv_icmp_ge (tgt := 91) hx hb dX3_appendClause_45 (by decide) (fun c_4 => ?_) (fun c_4 => ?_)
        · replace h := it_at h c_4
          cases h
          exact q_vret C hw dX3_appendClause_91
        · replace h := ie_at h c_4
          refine lv_aload_n hx hb dX3_appendClause_48 rfl (lv_at hl 0 rfl) ?_
          refine gf_3_0 C hw (mo_T ho).1 kw_367 (c1 := (o + 1)) rfl dX3_appendClause_49 ?_
          refine lv_aload_n hx hb dX3_appendClause_52 rfl (lv_at hl 0 rfl) ?_
          refine gf_3_6 C hw (mo_T ho).1 kw_373 dX3_appendClause_53 ?_
          refine lv_iload_n hx hb dX3_appendClause_56 rfl (lv_at hl 1 rfl) ?_
          obtain ⟨g_6, h⟩ := gd_at h
          obtain ⟨σ_5, eσ_5, h⟩ := lt_at h
          refine q_iast C hw (mo_T ho).2.1 g_6 eσ_5 dX3_appendClause_57 (fun H locs hw => ?_)
          refine lv_aload_n hx hb dX3_appendClause_58 rfl (lv_at hl 0 rfl) ?_
          refine gf_3_1 C hw (mo_T ho).1 kw_368 (c1 := (o + 2)) rfl dX3_appendClause_59 ?_
          refine lv_aload_n hx hb dX3_appendClause_62 rfl (lv_at hl 0 rfl) ?_
          refine gf_3_6 C hw (mo_T ho).1 kw_373 dX3_appendClause_63 ?_
          refine lv_iload_n hx hb dX3_appendClause_66 rfl (lv_at hl 2 rfl) ?_
          obtain ⟨g_8, h⟩ := gd_at h
          obtain ⟨σ_7, eσ_7, h⟩ := lt_at h
          refine q_iast C hw (mo_T ho).2.2.1 g_8 eσ_7 dX3_appendClause_67 (fun H locs hw => ?_)
          refine lv_aload_n hx hb dX3_appendClause_68 rfl (lv_at hl 0 rfl) ?_
          refine gf_3_2 C hw (mo_T ho).1 kw_369 (c1 := (o + 3)) rfl dX3_appendClause_69 ?_
          refine lv_aload_n hx hb dX3_appendClause_72 rfl (lv_at hl 0 rfl) ?_
          refine gf_3_6 C hw (mo_T ho).1 kw_373 dX3_appendClause_73 ?_
          refine lv_aload_n hx hb dX3_appendClause_76 rfl (lv_at hl 0 rfl) ?_
          refine gf_3_7 C hw (mo_T ho).1 kw_374 dX3_appendClause_77 ?_
          obtain ⟨g_10, h⟩ := gd_at h
          obtain ⟨σ_9, eσ_9, h⟩ := lt_at h
          refine q_iast C hw (mo_T ho).2.2.2.1 g_10 eσ_9 dX3_appendClause_80 (fun H locs hw => ?_)
          refine lv_aload_n hx hb dX3_appendClause_81 rfl (lv_at hl 0 rfl) ?_
          refine lv_dup hx hb dX3_appendClause_82 rfl ?_
          refine gf_3_6 C hw (mo_T ho).1 kw_373 dX3_appendClause_83 ?_
          refine lv_iconst (v := 1) hx hb dX3_appendClause_86 (by decide) ?_
          refine lv_iadd hx hb dX3_appendClause_87 ?_
          obtain ⟨σ_11, eσ_11, h⟩ := lt_at h
          refine pf_3_6 C hw (mo_T ho).1 kw_373 eσ_11 dX3_appendClause_88 (fun H locs hw => ?_)
          cases h
          exact q_vret C hw dX3_appendClause_91
      · replace h := ie_at h c_3
        refine lv_aload_n hx hb dX3_appendClause_31 rfl (lv_at hl 0 rfl) ?_
        refine lv_iload_n hx hb dX3_appendClause_32 rfl (lv_at hl 2 rfl) ?_
        obtain ⟨σ_12, eσ_12, h⟩ := lt_at h
        refine pf_3_10 C hw (mo_T ho).1 kw_377 eσ_12 dX3_appendClause_33 (fun H locs hw => ?_)
        refine lv_goto (tgt := 91) hx hb dX3_appendClause_36 (by decide) ?_
        cases h
        exact q_vret C hw dX3_appendClause_91
    · replace h := it_at h c_2
      refine lv_aload_n hx hb dX3_appendClause_18 rfl (lv_at hl 0 rfl) ?_
      refine lv_iload_n hx hb dX3_appendClause_19 rfl (lv_at hl 2 rfl) ?_
      obtain ⟨σ_13, eσ_13, h⟩ := lt_at h
      refine pf_3_9 C hw (mo_T ho).1 kw_376 eσ_13 dX3_appendClause_20 (fun H locs hw => ?_)
      refine lv_goto (tgt := 91) hx hb dX3_appendClause_23 (by decide) ?_
      cases h
      exact q_vret C hw dX3_appendClause_91
  · replace h := it_at h c_1
    refine lv_aload_n hx hb dX3_appendClause_5 rfl (lv_at hl 0 rfl) ?_
    refine lv_iload_n hx hb dX3_appendClause_6 rfl (lv_at hl 2 rfl) ?_
    obtain ⟨σ_14, eσ_14, h⟩ := lt_at h
    refine pf_3_8 C hw (mo_T ho).1 kw_375 eσ_14 dX3_appendClause_7 (fun H locs hw => ?_)
    refine lv_goto (tgt := 91) hx hb dX3_appendClause_10 (by decide) ?_
    cases h
    exact q_vret C hw dX3_appendClause_91
def f_X6_readClause_93 (x1 : Int32) (x2 : Int32) (σ : Mem) : Option (Int32 × Mem) :=
  gd (im (gI σ 40 1)) <|
  bv (f_X3_appendClause ((gI σ 40 1).toNatClampNeg) x1 x2 σ) fun σ_33 =>
  some ((1 : Int32), σ_33)
def f_X6_readClause_62 (x1 : Int32) (s0 : Int32) (σ : Mem) : Option (Int32 × Mem) :=
  if 0 ≤ s0 then
    (if (3 : Int32) < x1 then
      (f_X6_readClause_93 x1 s0 σ)
    else
      bd (f_X6_pass (32 : Int32) σ) fun r_23 σ_24 =>
      if r_23 = 0 then
        (some ((0 : Int32), σ_24))
      else
        bd (f_X6_readAny (0 : Int32) σ_24) fun r_27 σ_28 =>
        if r_27 = 0 then
          (some ((0 : Int32), σ_28))
        else
          f_X6_readClause_93 x1 s0 σ_28)
  else
    some ((0 : Int32), σ)
def f_X6_readClause_15 (k15 : Int32 → Int32 → Mem → Option (Int32 × Mem)) (x1 : Int32) (x2 : Int32) (σ : Mem) : Option (Int32 × Mem) :=
  if (4 : Int32) ≤ x2 then
    (bd (f_X6_pass (32 : Int32) σ) fun r_6 σ_7 =>
    if r_6 = 0 then
      (f_X6_readClause_62 x1 (-1 : Int32) σ_7)
    else
      bd (f_X6_readNumber σ_7) fun r_10 σ_11 =>
      f_X6_readClause_62 x1 r_10 σ_11)
  else
    bd (f_J0_charAt_5068e 1 ((x1 * (4 : Int32)) + x2) σ) fun r_13 σ_14 =>
    bd (f_X6_pass r_13 σ_14) fun r_16 σ_17 =>
    if r_16 = 0 then
      (some ((0 : Int32), σ_17))
    else
      lt (x2 + (1 : Int32)) fun x2_20 =>
      k15 x1 x2_20 σ_17
def f_X6_readClause (σ : Mem) : Option (Int32 × Mem) :=
  bd (f_X6_placeIn 0 σ) fun r_1 σ_2 =>
  if 0 ≤ r_1 then
    (fx3 (f_X6_readClause_15) FU r_1 (0 : Int32) σ_2)
  else
    some ((0 : Int32), σ_2)
set_option maxHeartbeats 4000000 in
set_option maxRecDepth 100000 in
theorem w_X6_readClause_93 {p : Program} {l : Launch} {e : Env} {s : State} {m : MethodId} {args : Array Value} {below : List Frame} {meth : Method} {c : Code} {E : EV} {rr : Int32} {τ : Mem} (C : Cx E p s m args meth c cX6_readClause 3 (some .boolean) RX6) : ∀ (x1 : Int32) (x2 : Int32) (σ : Mem) (H : Heap) (locs : List Loc) (ls : Array Slot) (hw : Wd TC E σ s H locs) (hl : lv_has ls 3 [(0, .ref (E.2.1 (40))), (1, .int x1), (2, .int x2)]) (h : f_X6_readClause_93 x1 x2 σ = some (rr, τ)), W p l e { frames := 89, cells := 0, slots := 0, locals := 2327 } s m args below meth c H locs 0 0 (MQ below (QI TC E rr τ) args s 0 0 E.2.2.1) (F0 m 93 ls []) := by
  obtain ⟨hx, hb, hml, hown, hts, hK, hSt, hlk, hr⟩ := id C
  intro x1 x2 σ H locs ls hw hl h
  unfold f_X6_readClause_93 at h
  refine lv_aload_n hx hb dX6_readClause_93 rfl (lv_at hl 0 rfl) ?_
  obtain ⟨g_31, h⟩ := gd_at h
  refine gm_6_1 C hw tC_40 kw_277 g_31 dX6_readClause_94 ?_
  refine lv_iload_n hx hb dX6_readClause_97 rfl (lv_at hl 1 rfl) ?_
  refine lv_iload_n hx hb dX6_readClause_98 rfl (lv_at hl 2 rfl) ?_
  obtain ⟨σ_33, h_34, h⟩ := bv_at h
  refine q_afterV hw (q_runV C hw hl.1 (As := [.int x1, .int x2]) (rest := []) (m_X3_appendClause l E ((gI σ 40 1).toNatClampNeg) ((im_at g_31).1) x1 x2 σ σ_33 h_34) yq_X3_appendClause (mo_T (im_at g_31).1).1 rfl rfl kw_604 ⟨Nat.le_of_ble_eq_true rfl, Nat.le_of_ble_eq_true rfl⟩ rfl (Nat.le_of_ble_eq_true rfl) ⟨Nat.zero_le _, Nat.zero_le _⟩ dX6_readClause_99) (fun H locs hw => ?_)
  refine lv_iconst (v := 1) hx hb dX6_readClause_102 (by decide) ?_
  obtain ⟨rfl, rfl⟩ := ret_at h
  exact q_zret C (by decide) hw dX6_readClause_103
set_option maxHeartbeats 4000000 in
set_option maxRecDepth 100000 in
theorem w_X6_readClause_62 {p : Program} {l : Launch} {e : Env} {s : State} {m : MethodId} {args : Array Value} {below : List Frame} {meth : Method} {c : Code} {E : EV} {rr : Int32} {τ : Mem} (C : Cx E p s m args meth c cX6_readClause 3 (some .boolean) RX6) : ∀ (x1 : Int32) (s0 : Int32) (σ : Mem) (H : Heap) (locs : List Loc) (ls : Array Slot) (hw : Wd TC E σ s H locs) (hl : lv_has ls 3 [(0, .ref (E.2.1 (40))), (1, .int x1)]) (h : f_X6_readClause_62 x1 s0 σ = some (rr, τ)), W p l e { frames := 89, cells := 0, slots := 0, locals := 2327 } s m args below meth c H locs 0 0 (MQ below (QI TC E rr τ) args s 0 0 E.2.2.1) (F0 m 62 ls [.int s0]) := by
  obtain ⟨hx, hb, hml, hown, hts, hK, hSt, hlk, hr⟩ := id C
  intro x1 s0 σ H locs ls hw hl h
  unfold f_X6_readClause_62 at h
  refine lv_istore_n (lv' := [(2, .int s0), (0, .ref (E.2.1 (40))), (1, .int x1)]) hx hb dX6_readClause_62 rfl hl (by decide) rfl (fun ls hl => ?_)
  refine lv_iload_n hx hb dX6_readClause_63 rfl (lv_at hl 0 rfl) ?_
  refine lv_if_ge (tgt := 69) hx hb dX6_readClause_64 (by decide) (fun c_21 => ?_) (fun c_21 => ?_)
  · replace h := it_at h c_21
    refine lv_iload_n hx hb dX6_readClause_69 rfl (lv_at hl 2 rfl) ?_
    refine lv_iconst (v := 3) hx hb dX6_readClause_70 (by decide) ?_
    refine lv_icmp_gt (tgt := 93) hx hb dX6_readClause_71 (by decide) (fun c_22 => ?_) (fun c_22 => ?_)
    · replace h := it_at h c_22
      exact w_X6_readClause_93 C _ _ _ _ _ _ hw (lv_sub hl [1, 2, 0] rfl) h
    · replace h := ie_at h c_22
      refine lv_aload_n hx hb dX6_readClause_74 rfl (lv_at hl 1 rfl) ?_
      refine lv_bipush (v := 32) hx hb dX6_readClause_75 (by decide) ?_
      obtain ⟨r_23, σ_24, h_25, h⟩ := bd_at h
      refine q_afterI hw (q_runV C hw hl.1 (As := [.int (32 : Int32)]) (rest := []) (m_X6_pass l E (32 : Int32) σ r_23 σ_24 h_25) yq_X6_pass tC_40 rfl rfl kw_569 ⟨Nat.le_of_ble_eq_true rfl, Nat.le_of_ble_eq_true rfl⟩ rfl (Nat.le_of_ble_eq_true rfl) ⟨Nat.zero_le _, Nat.zero_le _⟩ dX6_readClause_77) (fun H locs hw => ?_)
      refine lv_if_eq (tgt := 91) hx hb dX6_readClause_80 (by decide) (fun c_26 => ?_) (fun c_26 => ?_)
      · replace h := it_at h c_26
        refine lv_iconst (v := 0) hx hb dX6_readClause_91 (by decide) ?_
        obtain ⟨rfl, rfl⟩ := ret_at h
        exact q_zret C (by decide) hw dX6_readClause_92
      · replace h := ie_at h c_26
        refine lv_aload_n hx hb dX6_readClause_83 rfl (lv_at hl 1 rfl) ?_
        refine lv_iconst (v := 0) hx hb dX6_readClause_84 (by decide) ?_
        obtain ⟨r_27, σ_28, h_29, h⟩ := bd_at h
        refine q_afterI hw (q_runV C hw hl.1 (As := [.int (0 : Int32)]) (rest := []) (m_X6_readAny l E (0 : Int32) σ_24 r_27 σ_28 h_29) yq_X6_readAny tC_40 rfl rfl kw_581 ⟨Nat.le_of_ble_eq_true rfl, Nat.le_of_ble_eq_true rfl⟩ rfl (Nat.le_of_ble_eq_true rfl) ⟨Nat.zero_le _, Nat.zero_le _⟩ dX6_readClause_85) (fun H locs hw => ?_)
        refine lv_if_ne (tgt := 93) hx hb dX6_readClause_88 (by decide) (fun c_30 => ?_) (fun c_30 => ?_)
        · replace h := ie_at h c_30
          exact w_X6_readClause_93 C _ _ _ _ _ _ hw (lv_sub hl [1, 2, 0] rfl) h
        · replace h := it_at h c_30
          refine lv_iconst (v := 0) hx hb dX6_readClause_91 (by decide) ?_
          obtain ⟨rfl, rfl⟩ := ret_at h
          exact q_zret C (by decide) hw dX6_readClause_92
  · replace h := ie_at h c_21
    refine lv_iconst (v := 0) hx hb dX6_readClause_67 (by decide) ?_
    obtain ⟨rfl, rfl⟩ := ret_at h
    exact q_zret C (by decide) hw dX6_readClause_68
set_option maxHeartbeats 4000000 in
set_option maxRecDepth 100000 in
theorem w_X6_readClause_15 {p : Program} {l : Launch} {e : Env} {s : State} {m : MethodId} {args : Array Value} {below : List Frame} {meth : Method} {c : Code} {E : EV} {rr : Int32} {τ : Mem} (C : Cx E p s m args meth c cX6_readClause 3 (some .boolean) RX6) : ∀ (n : Nat) (x1 : Int32) (x2 : Int32) (σ : Mem) (H : Heap) (locs : List Loc) (ls : Array Slot) (hw : Wd TC E σ s H locs) (hl : lv_has ls 3 [(0, .ref (E.2.1 (40))), (1, .int x1), (2, .int x2)]) (h : fx3 (f_X6_readClause_15) n x1 x2 σ = some (rr, τ)), W p l e { frames := 89, cells := 0, slots := 0, locals := 2327 } s m args below meth c H locs 0 0 (MQ below (QI TC E rr τ) args s 0 0 E.2.2.1) (F0 m 15 ls []) := by
  obtain ⟨hx, hb, hml, hown, hts, hK, hSt, hlk, hr⟩ := id C
  intro n
  induction n with
  | zero =>
    intro x1 x2 σ H locs ls hw hl h
    have h : none = some (rr, τ) := h
    cases h
  | succ n hk15 =>
    intro x1 x2 σ H locs ls hw hl h
    replace h : f_X6_readClause_15 (fx3 (f_X6_readClause_15) n) x1 x2 σ = some (rr, τ) := h
    unfold f_X6_readClause_15 at h
    refine lv_iload_n hx hb dX6_readClause_15 rfl (lv_at hl 2 rfl) ?_
    refine lv_iconst (v := 4) hx hb dX6_readClause_16 (by decide) ?_
    refine lv_icmp_ge (tgt := 45) hx hb dX6_readClause_17 (by decide) (fun c_5 => ?_) (fun c_5 => ?_)
    · replace h := it_at h c_5
      refine lv_aload_n hx hb dX6_readClause_45 rfl (lv_at hl 0 rfl) ?_
      refine lv_bipush (v := 32) hx hb dX6_readClause_46 (by decide) ?_
      obtain ⟨r_6, σ_7, h_8, h⟩ := bd_at h
      refine q_afterI hw (q_runV C hw hl.1 (As := [.int (32 : Int32)]) (rest := []) (m_X6_pass l E (32 : Int32) σ r_6 σ_7 h_8) yq_X6_pass tC_40 rfl rfl kw_569 ⟨Nat.le_of_ble_eq_true rfl, Nat.le_of_ble_eq_true rfl⟩ rfl (Nat.le_of_ble_eq_true rfl) ⟨Nat.zero_le _, Nat.zero_le _⟩ dX6_readClause_48) (fun H locs hw => ?_)
      refine lv_if_eq (tgt := 61) hx hb dX6_readClause_51 (by decide) (fun c_9 => ?_) (fun c_9 => ?_)
      · replace h := it_at h c_9
        refine lv_iconst (v := (-1)) hx hb dX6_readClause_61 (by decide) ?_
        exact w_X6_readClause_62 C _ _ _ _ _ _ hw (lv_sub hl [0, 1] rfl) h
      · replace h := ie_at h c_9
        refine lv_aload_n hx hb dX6_readClause_54 rfl (lv_at hl 0 rfl) ?_
        obtain ⟨r_10, σ_11, h_12, h⟩ := bd_at h
        refine q_afterI hw (q_runV C hw hl.1 (As := []) (rest := []) (m_X6_readNumber l E  σ_7 r_10 σ_11 h_12) yq_X6_readNumber tC_40 rfl rfl kw_573 ⟨Nat.le_of_ble_eq_true rfl, Nat.le_of_ble_eq_true rfl⟩ rfl (Nat.le_of_ble_eq_true rfl) ⟨Nat.zero_le _, Nat.zero_le _⟩ dX6_readClause_55) (fun H locs hw => ?_)
        refine lv_goto (tgt := 62) hx hb dX6_readClause_58 (by decide) ?_
        exact w_X6_readClause_62 C _ _ _ _ _ _ hw (lv_sub hl [0, 1] rfl) h
    · replace h := ie_at h c_5
      refine lv_aload_n hx hb dX6_readClause_20 rfl (lv_at hl 0 rfl) ?_
      refine q_ldcS C (tx := "fastmealheatwearcooledgeburn") (w := 1) (List.mem_of_getElem? (i := 1) rfl) dX6_readClause_21 ?_
      refine lv_iload_n hx hb dX6_readClause_23 rfl (lv_at hl 1 rfl) ?_
      refine lv_iconst (v := 4) hx hb dX6_readClause_24 (by decide) ?_
      refine lv_imul hx hb dX6_readClause_25 ?_
      refine lv_iload_n hx hb dX6_readClause_26 rfl (lv_at hl 2 rfl) ?_
      refine lv_iadd hx hb dX6_readClause_27 ?_
      obtain ⟨r_13, σ_14, h_15, h⟩ := bd_at h
      refine q_afterI hw (q_runW C hw hl.1 (by decide) (As := [.int ((x1 * (4 : Int32)) + x2)]) (rest := [.ref (E.2.1 (40))]) (m_J0_charAt_5068e l E 1 (by decide) ((x1 * (4 : Int32)) + x2) σ r_13 σ_14 h_15) yq_J0_charAt_5068e rfl kw_549 ⟨Nat.le_of_ble_eq_true rfl, Nat.le_of_ble_eq_true rfl⟩ rfl (Nat.le_of_ble_eq_true rfl) ⟨Nat.zero_le _, Nat.zero_le _⟩ dX6_readClause_28) (fun H locs hw => ?_)
      obtain ⟨r_16, σ_17, h_18, h⟩ := bd_at h
      refine q_afterI hw (q_runV C hw hl.1 (As := [.int r_13]) (rest := []) (m_X6_pass l E r_13 σ_14 r_16 σ_17 h_18) yq_X6_pass tC_40 rfl rfl kw_569 ⟨Nat.le_of_ble_eq_true rfl, Nat.le_of_ble_eq_true rfl⟩ rfl (Nat.le_of_ble_eq_true rfl) ⟨Nat.zero_le _, Nat.zero_le _⟩ dX6_readClause_31) (fun H locs hw => ?_)
      refine lv_if_ne (tgt := 39) hx hb dX6_readClause_34 (by decide) (fun c_19 => ?_) (fun c_19 => ?_)
      · replace h := ie_at h c_19
        obtain ⟨x2_20, ex2_20, h⟩ := lt_at h
        refine lv_iinc (v := x2_20) (lv' := [(2, .int x2_20), (0, .ref (E.2.1 (40))), (1, .int x1)]) hx hb dX6_readClause_39 hl (k := 2) rfl (by rw [ex2_20]; rfl) (by decide) rfl (fun ls hl => ?_)
        refine lv_goto (tgt := 15) hx hb dX6_readClause_42 (by decide) ?_
        exact hk15 _ _ _ _ _ _ hw (lv_sub hl [1, 2, 0] rfl) h
      · replace h := it_at h c_19
        refine lv_iconst (v := 0) hx hb dX6_readClause_37 (by decide) ?_
        obtain ⟨rfl, rfl⟩ := ret_at h
        exact q_zret C (by decide) hw dX6_readClause_38
set_option maxHeartbeats 4000000 in
set_option maxRecDepth 100000 in
theorem m_X6_readClause (l : Launch) (E : EV) (σ : Mem) (rr : Int32) (τ : Mem) (h : f_X6_readClause  σ = some (rr, τ)) : MI TC l E yX6_readClause cX6_readClause 3 (some .boolean) 89 2327 [.ref (E.2.1 (40))] σ rr τ := by
  refine mt_start RX6 (by decide +kernel) rfl (Nat.le_of_ble_eq_true rfl) (fun p e s m args below meth c ls C hw hl => ?_)
  replace hl : lv_has ls 3 [(0, .ref (E.2.1 (40)))] := hl
  obtain ⟨hx, hb, hml, hown, hts, hK, hSt, hlk, hr⟩ := id C
  unfold f_X6_readClause at h
  refine lv_aload_n hx hb dX6_readClause_0 rfl (lv_at hl 0 rfl) ?_
  refine q_ldcS C (tx := "fmhwceb") (w := 0) (List.mem_of_getElem? (i := 0) rfl) dX6_readClause_1 ?_
  obtain ⟨r_1, σ_2, h_3, h⟩ := bd_at h
  refine q_afterI hw (q_runV C hw hl.1 (As := [.ref (E.2.2.2.2 (2 + 0))]) (rest := []) (m_X6_placeIn l E 0 (by decide) σ r_1 σ_2 h_3) yq_X6_placeIn tC_40 rfl rfl kw_454 ⟨Nat.le_of_ble_eq_true rfl, Nat.le_of_ble_eq_true rfl⟩ rfl (Nat.le_of_ble_eq_true rfl) ⟨Nat.zero_le _, Nat.zero_le _⟩ dX6_readClause_3) (fun H locs hw => ?_)
  refine lv_istore_n (lv' := [(1, .int r_1), (0, .ref (E.2.1 (40)))]) hx hb dX6_readClause_6 rfl hl (by decide) rfl (fun ls hl => ?_)
  refine lv_iload_n hx hb dX6_readClause_7 rfl (lv_at hl 0 rfl) ?_
  refine lv_if_ge (tgt := 13) hx hb dX6_readClause_8 (by decide) (fun c_4 => ?_) (fun c_4 => ?_)
  · replace h := it_at h c_4
    refine lv_iconst (v := 0) hx hb dX6_readClause_13 (by decide) ?_
    refine lv_istore_n (lv' := [(2, .int (0 : Int32)), (1, .int r_1), (0, .ref (E.2.1 (40)))]) hx hb dX6_readClause_14 rfl hl (by decide) rfl (fun ls hl => ?_)
    exact w_X6_readClause_15 C _ _ _ _ _ _ _ hw (lv_sub hl [2, 1, 0] rfl) h
  · replace h := ie_at h c_4
    refine lv_iconst (v := 0) hx hb dX6_readClause_11 (by decide) ?_
    obtain ⟨rfl, rfl⟩ := ret_at h
    exact q_zret C (by decide) hw dX6_readClause_12
def f_X6_read_78 (o : Nat) (x3 : Int32) (σ : Mem) : Option (Int32 × Mem) :=
  if x3 = 0 then
    (some (gI σ 40 2, σ))
  else
    gd (decide (gI σ 40 0 = nI 3)) <|
    if (gI σ 40 2) = (gI σ 3 1) then
      (some ((-1 : Int32), σ))
    else
      some (gI σ 40 2, σ)
def f_X6_read_30 (o : Nat) (k30 : Int32 → Int32 → Mem → Option (Int32 × Mem)) (x3 : Int32) (x4 : Int32) (σ : Mem) : Option (Int32 × Mem) :=
  if (10 : Int32) ≤ x4 then
    (f_X6_read_78 o x3 σ)
  else
    if x3 = 0 then
      (f_X6_read_78 o x3 σ)
    else
      gd (decide (gI σ 40 0 = nI 3)) <|
      bd (f_X9_at (gI σ 40 2) σ) fun r_14 σ_15 =>
      if r_14 = (59 : Int32) then
        (lt (sI σ_15 40 2 ((gI σ_15 40 2) + (1 : Int32))) fun σ_18 =>
        bd (f_X6_readClause σ_18) fun r_19 σ_20 =>
        lt (x4 + (1 : Int32)) fun x4_22 =>
        k30 r_19 x4_22 σ_20)
      else
        f_X6_read_78 o x3 σ_15
def f_X6_read (o : Nat) (σ : Mem) : Option (Int32 × Mem) :=
  lt (sI σ 40 0 (nI (3))) fun σ_1 =>
  lt (sI σ_1 40 1 (nI o)) fun σ_2 =>
  lt (sI σ_2 40 2 (0 : Int32)) fun σ_3 =>
  gd (im (gI σ_3 40 1)) <|
  bv (f_X3_clear ((gI σ_3 40 1).toNatClampNeg) σ_3) fun σ_6 =>
  bd (f_X6_readClause σ_6) fun r_8 σ_9 =>
  fx3 (f_X6_read_30 o) FU r_8 (1 : Int32) σ_9
set_option maxHeartbeats 4000000 in
set_option maxRecDepth 100000 in
theorem w_X6_read_78 {p : Program} {l : Launch} {e : Env} {s : State} {m : MethodId} {args : Array Value} {below : List Frame} {meth : Method} {c : Code} {E : EV} {rr : Int32} {τ : Mem} (C : Cx E p s m args meth c cX6_read 5 (some .int) RX6) (o : Nat) (ho : MO o) : ∀ (x3 : Int32) (σ : Mem) (H : Heap) (locs : List Loc) (ls : Array Slot) (hw : Wd TC E σ s H locs) (hl : lv_has ls 5 [(0, .ref (E.2.1 (40))), (3, .int x3)]) (h : f_X6_read_78 o x3 σ = some (rr, τ)), W p l e { frames := 90, cells := 0, slots := 0, locals := 2349 } s m args below meth c H locs 0 0 (MQ below (QI TC E rr τ) args s 0 0 E.2.2.1) (F0 m 78 ls []) := by
  obtain ⟨hx, hb, hml, hown, hts, hK, hSt, hlk, hr⟩ := id C
  intro x3 σ H locs ls hw hl h
  unfold f_X6_read_78 at h
  refine lv_iload_n hx hb dX6_read_78 rfl (lv_at hl 1 rfl) ?_
  refine lv_if_eq (tgt := 100) hx hb dX6_read_79 (by decide) (fun c_23 => ?_) (fun c_23 => ?_)
  · replace h := it_at h c_23
    refine lv_aload_n hx hb dX6_read_100 rfl (lv_at hl 0 rfl) ?_
    refine gf_6_2 C hw tC_40 kw_278 dX6_read_101 ?_
    obtain ⟨rfl, rfl⟩ := ret_at h
    exact q_iret C hw dX6_read_104
  · replace h := ie_at h c_23
    refine lv_aload_n hx hb dX6_read_82 rfl (lv_at hl 0 rfl) ?_
    refine gf_6_2 C hw tC_40 kw_278 dX6_read_83 ?_
    refine lv_aload_n hx hb dX6_read_86 rfl (lv_at hl 0 rfl) ?_
    obtain ⟨g_24, h⟩ := gd_at h
    refine gf_6_0 C hw tC_40 kw_276 (c1 := 3) (by decide) (of_decide_eq_true g_24) dX6_read_87 ?_
    refine gf_9_1 C hw tC_3 kw_122 dX6_read_90 ?_
    refine lv_icmp_ne (tgt := 100) hx hb dX6_read_93 (by decide) (fun c_25 => ?_) (fun c_25 => ?_)
    · replace h := ie_at h c_25
      refine lv_aload_n hx hb dX6_read_100 rfl (lv_at hl 0 rfl) ?_
      refine gf_6_2 C hw tC_40 kw_278 dX6_read_101 ?_
      obtain ⟨rfl, rfl⟩ := ret_at h
      exact q_iret C hw dX6_read_104
    · replace h := it_at h c_25
      refine lv_iconst (v := (-1)) hx hb dX6_read_96 (by decide) ?_
      refine lv_goto (tgt := 104) hx hb dX6_read_97 (by decide) ?_
      obtain ⟨rfl, rfl⟩ := ret_at h
      exact q_iret C hw dX6_read_104
set_option maxHeartbeats 4000000 in
set_option maxRecDepth 100000 in
theorem w_X6_read_30 {p : Program} {l : Launch} {e : Env} {s : State} {m : MethodId} {args : Array Value} {below : List Frame} {meth : Method} {c : Code} {E : EV} {rr : Int32} {τ : Mem} (C : Cx E p s m args meth c cX6_read 5 (some .int) RX6) (o : Nat) (ho : MO o) : ∀ (n : Nat) (x3 : Int32) (x4 : Int32) (σ : Mem) (H : Heap) (locs : List Loc) (ls : Array Slot) (hw : Wd TC E σ s H locs) (hl : lv_has ls 5 [(0, .ref (E.2.1 (40))), (3, .int x3), (4, .int x4)]) (h : fx3 (f_X6_read_30 o) n x3 x4 σ = some (rr, τ)), W p l e { frames := 90, cells := 0, slots := 0, locals := 2349 } s m args below meth c H locs 0 0 (MQ below (QI TC E rr τ) args s 0 0 E.2.2.1) (F0 m 30 ls []) := by
  obtain ⟨hx, hb, hml, hown, hts, hK, hSt, hlk, hr⟩ := id C
  intro n
  induction n with
  | zero =>
    intro x3 x4 σ H locs ls hw hl h
    have h : none = some (rr, τ) := h
    cases h
  | succ n hk30 =>
    intro x3 x4 σ H locs ls hw hl h
    replace h : f_X6_read_30 o (fx3 (f_X6_read_30 o) n) x3 x4 σ = some (rr, τ) := h
    unfold f_X6_read_30 at h
    refine lv_iload hx hb dX6_read_30 (lv_at hl 2 rfl) ?_
    refine lv_bipush (v := 10) hx hb dX6_read_32 (by decide) ?_
    refine lv_icmp_ge (tgt := 78) hx hb dX6_read_34 (by decide) (fun c_11 => ?_) (fun c_11 => ?_)
    · replace h := it_at h c_11
      exact w_X6_read_78 C o ho _ _ _ _ _ hw (lv_sub hl [0, 1] rfl) h
    · replace h := ie_at h c_11
      refine lv_iload_n hx hb dX6_read_37 rfl (lv_at hl 1 rfl) ?_
      refine lv_if_eq (tgt := 78) hx hb dX6_read_38 (by decide) (fun c_12 => ?_) (fun c_12 => ?_)
      · replace h := it_at h c_12
        exact w_X6_read_78 C o ho _ _ _ _ _ hw (lv_sub hl [0, 1] rfl) h
      · replace h := ie_at h c_12
        refine lv_aload_n hx hb dX6_read_41 rfl (lv_at hl 0 rfl) ?_
        obtain ⟨g_13, h⟩ := gd_at h
        refine gf_6_0 C hw tC_40 kw_276 (c1 := 3) (by decide) (of_decide_eq_true g_13) dX6_read_42 ?_
        refine lv_aload_n hx hb dX6_read_45 rfl (lv_at hl 0 rfl) ?_
        refine gf_6_2 C hw tC_40 kw_278 dX6_read_46 ?_
        obtain ⟨r_14, σ_15, h_16, h⟩ := bd_at h
        refine q_afterI hw (q_runV C hw hl.1 (As := [.int (gI σ 40 2)]) (rest := []) (m_X9_at l E (gI σ 40 2) σ r_14 σ_15 h_16) yq_X9_at tC_3 rfl rfl kw_458 ⟨Nat.le_of_ble_eq_true rfl, Nat.le_of_ble_eq_true rfl⟩ rfl (Nat.le_of_ble_eq_true rfl) ⟨Nat.zero_le _, Nat.zero_le _⟩ dX6_read_49) (fun H locs hw => ?_)
        refine lv_bipush (v := 59) hx hb dX6_read_52 (by decide) ?_
        refine lv_icmp_ne (tgt := 78) hx hb dX6_read_54 (by decide) (fun c_17 => ?_) (fun c_17 => ?_)
        · replace h := ie_at h c_17
          exact w_X6_read_78 C o ho _ _ _ _ _ hw (lv_sub hl [0, 1] rfl) h
        · replace h := it_at h c_17
          refine lv_aload_n hx hb dX6_read_57 rfl (lv_at hl 0 rfl) ?_
          refine lv_dup hx hb dX6_read_58 rfl ?_
          refine gf_6_2 C hw tC_40 kw_278 dX6_read_59 ?_
          refine lv_iconst (v := 1) hx hb dX6_read_62 (by decide) ?_
          refine lv_iadd hx hb dX6_read_63 ?_
          obtain ⟨σ_18, eσ_18, h⟩ := lt_at h
          refine pf_6_2 C hw tC_40 kw_278 eσ_18 dX6_read_64 (fun H locs hw => ?_)
          refine lv_aload_n hx hb dX6_read_67 rfl (lv_at hl 0 rfl) ?_
          obtain ⟨r_19, σ_20, h_21, h⟩ := bd_at h
          refine q_afterI hw (q_runV C hw hl.1 (As := []) (rest := []) (m_X6_readClause l E  σ_18 r_19 σ_20 h_21) yq_X6_readClause tC_40 rfl rfl kw_449 ⟨Nat.le_of_ble_eq_true rfl, Nat.le_of_ble_eq_true rfl⟩ rfl (Nat.le_of_ble_eq_true rfl) ⟨Nat.zero_le _, Nat.zero_le _⟩ dX6_read_68) (fun H locs hw => ?_)
          refine lv_istore_n (lv' := [(3, .int r_19), (0, .ref (E.2.1 (40))), (4, .int x4)]) hx hb dX6_read_71 rfl hl (by decide) rfl (fun ls hl => ?_)
          obtain ⟨x4_22, ex4_22, h⟩ := lt_at h
          refine lv_iinc (v := x4_22) (lv' := [(4, .int x4_22), (3, .int r_19), (0, .ref (E.2.1 (40)))]) hx hb dX6_read_72 hl (k := 2) rfl (by rw [ex4_22]; rfl) (by decide) rfl (fun ls hl => ?_)
          refine lv_goto (tgt := 30) hx hb dX6_read_75 (by decide) ?_
          exact hk30 _ _ _ _ _ _ hw (lv_sub hl [2, 1, 0] rfl) h
set_option maxHeartbeats 4000000 in
set_option maxRecDepth 100000 in
theorem m_X6_read (l : Launch) (E : EV) (o : Nat) (ho : MO o) (σ : Mem) (rr : Int32) (τ : Mem) (h : f_X6_read o σ = some (rr, τ)) : MI TC l E yX6_read cX6_read 5 (some .int) 90 2349 [.ref (E.2.1 (40)), .ref (E.2.1 (3)), .ref (E.2.1 o)] σ rr τ := by
  refine mt_start RX6 (by decide +kernel) rfl (Nat.le_of_ble_eq_true rfl) (fun p e s m args below meth c ls C hw hl => ?_)
  replace hl : lv_has ls 5 [(0, .ref (E.2.1 (40))), (1, .ref (E.2.1 (3))), (2, .ref (E.2.1 o))] := hl
  obtain ⟨hx, hb, hml, hown, hts, hK, hSt, hlk, hr⟩ := id C
  unfold f_X6_read at h
  refine lv_aload_n hx hb dX6_read_0 rfl (lv_at hl 0 rfl) ?_
  refine lv_aload_n hx hb dX6_read_1 rfl (lv_at hl 1 rfl) ?_
  obtain ⟨σ_1, eσ_1, h⟩ := lt_at h
  refine pf_6_0 C hw tC_40 kw_276 (c1 := 3) (by decide) eσ_1 dX6_read_2 (fun H locs hw => ?_)
  refine lv_aload_n hx hb dX6_read_5 rfl (lv_at hl 0 rfl) ?_
  refine lv_aload_n hx hb dX6_read_6 rfl (lv_at hl 2 rfl) ?_
  obtain ⟨σ_2, eσ_2, h⟩ := lt_at h
  refine pf_6_1 C hw tC_40 kw_277 (c1 := o) (MO.pos ho) eσ_2 dX6_read_7 (fun H locs hw => ?_)
  refine lv_aload_n hx hb dX6_read_10 rfl (lv_at hl 0 rfl) ?_
  refine lv_iconst (v := 0) hx hb dX6_read_11 (by decide) ?_
  obtain ⟨σ_3, eσ_3, h⟩ := lt_at h
  refine pf_6_2 C hw tC_40 kw_278 eσ_3 dX6_read_12 (fun H locs hw => ?_)
  refine lv_aload_n hx hb dX6_read_15 rfl (lv_at hl 0 rfl) ?_
  obtain ⟨g_4, h⟩ := gd_at h
  refine gm_6_1 C hw tC_40 kw_277 g_4 dX6_read_16 ?_
  obtain ⟨σ_6, h_7, h⟩ := bv_at h
  refine q_afterV hw (q_runV C hw hl.1 (As := []) (rest := []) (m_X3_clear l E ((gI σ_3 40 1).toNatClampNeg) ((im_at g_4).1) σ_3 σ_6 h_7) yq_X3_clear (mo_T (im_at g_4).1).1 rfl rfl kw_442 ⟨Nat.le_of_ble_eq_true rfl, Nat.le_of_ble_eq_true rfl⟩ rfl (Nat.le_of_ble_eq_true rfl) ⟨Nat.zero_le _, Nat.zero_le _⟩ dX6_read_19) (fun H locs hw => ?_)
  refine lv_aload_n hx hb dX6_read_22 rfl (lv_at hl 0 rfl) ?_
  obtain ⟨r_8, σ_9, h_10, h⟩ := bd_at h
  refine q_afterI hw (q_runV C hw hl.1 (As := []) (rest := []) (m_X6_readClause l E  σ_6 r_8 σ_9 h_10) yq_X6_readClause tC_40 rfl rfl kw_449 ⟨Nat.le_of_ble_eq_true rfl, Nat.le_of_ble_eq_true rfl⟩ rfl (Nat.le_of_ble_eq_true rfl) ⟨Nat.zero_le _, Nat.zero_le _⟩ dX6_read_23) (fun H locs hw => ?_)
  refine lv_istore_n (lv' := [(3, .int r_8), (0, .ref (E.2.1 (40))), (1, .ref (E.2.1 (3))), (2, .ref (E.2.1 o))]) hx hb dX6_read_26 rfl hl (by decide) rfl (fun ls hl => ?_)
  refine lv_iconst (v := 1) hx hb dX6_read_27 (by decide) ?_
  refine lv_istore (lv' := [(4, .int (1 : Int32)), (3, .int r_8), (0, .ref (E.2.1 (40))), (1, .ref (E.2.1 (3))), (2, .ref (E.2.1 o))]) hx hb dX6_read_28 hl (by decide) rfl (fun ls hl => ?_)
  exact w_X6_read_30 C o ho _ _ _ _ _ _ _ hw (lv_sub hl [2, 1, 0] rfl) h
def f_X0_bodyOf (p0 : Int32) (p1 : Int32) (σ : Mem) : Option (Int32 × Mem) :=
  lt ((p0 * (3 : Int32)) + p1) fun x2_1 =>
  if x2_1 < 0 then
    (some ((0 : Int32), σ))
  else
    if (21 : Int32) ≤ x2_1 then
      (some ((0 : Int32), σ))
    else
      gd (ib x2_1 21) <|
      some (tBodies.getD x2_1.toNatClampNeg 0, σ)
set_option maxHeartbeats 4000000 in
set_option maxRecDepth 100000 in
theorem m_X0_bodyOf (l : Launch) (E : EV) (p0 : Int32) (p1 : Int32) (σ : Mem) (rr : Int32) (τ : Mem) (h : f_X0_bodyOf p0 p1 σ = some (rr, τ)) : MI TC l E yX0_bodyOf cX0_bodyOf 3 (some .int) 0 0 [.int p0, .int p1] σ rr τ := by
  refine mt_start RX0 (by decide +kernel) rfl (Nat.le_of_ble_eq_true rfl) (fun p e s m args below meth c ls C hw hl => ?_)
  replace hl : lv_has ls 3 [(0, .int p0), (1, .int p1)] := hl
  obtain ⟨hx, hb, hml, hown, hts, hK, hSt, hlk, hr⟩ := id C
  unfold f_X0_bodyOf at h
  refine lv_iload_n hx hb dX0_bodyOf_0 rfl (lv_at hl 0 rfl) ?_
  refine lv_iconst (v := 3) hx hb dX0_bodyOf_1 (by decide) ?_
  refine lv_imul hx hb dX0_bodyOf_2 ?_
  refine lv_iload_n hx hb dX0_bodyOf_3 rfl (lv_at hl 1 rfl) ?_
  refine lv_iadd hx hb dX0_bodyOf_4 ?_
  obtain ⟨x2_1, ex2_1, h⟩ := lt_at h
  refine q_top ex2_1 ?_
  refine lv_istore_n (lv' := [(2, .int x2_1), (0, .int p0), (1, .int p1)]) hx hb dX0_bodyOf_5 rfl hl (by decide) rfl (fun ls hl => ?_)
  refine lv_iload_n hx hb dX0_bodyOf_6 rfl (lv_at hl 0 rfl) ?_
  refine lv_if_lt (tgt := 26) hx hb dX0_bodyOf_7 (by decide) (fun c_2 => ?_) (fun c_2 => ?_)
  · replace h := it_at h c_2
    refine lv_iconst (v := 0) hx hb dX0_bodyOf_26 (by decide) ?_
    obtain ⟨rfl, rfl⟩ := ret_at h
    exact q_iret C hw dX0_bodyOf_27
  · replace h := ie_at h c_2
    refine lv_iload_n hx hb dX0_bodyOf_10 rfl (lv_at hl 0 rfl) ?_
    refine q_tab1 C hw kw_938 dX0_bodyOf_11 ?_
    refine q_tlen1 C hw dX0_bodyOf_14 ?_
    refine lv_icmp_ge (tgt := 26) hx hb dX0_bodyOf_15 (by decide) (fun c_3 => ?_) (fun c_3 => ?_)
    · replace h := it_at h c_3
      refine lv_iconst (v := 0) hx hb dX0_bodyOf_26 (by decide) ?_
      obtain ⟨rfl, rfl⟩ := ret_at h
      exact q_iret C hw dX0_bodyOf_27
    · replace h := ie_at h c_3
      refine q_tab1 C hw kw_938 dX0_bodyOf_18 ?_
      refine lv_iload_n hx hb dX0_bodyOf_21 rfl (lv_at hl 0 rfl) ?_
      obtain ⟨g_4, h⟩ := gd_at h
      refine q_tld1 C hw g_4 dX0_bodyOf_22 ?_
      refine lv_goto (tgt := 27) hx hb dX0_bodyOf_23 (by decide) ?_
      obtain ⟨rfl, rfl⟩ := ret_at h
      exact q_iret C hw dX0_bodyOf_27
def f_X7_above (p0 : Int32) (σ : Mem) : Option (Int32 × Mem) :=
  if p0 < 0 then
    (some ((-1 : Int32), σ))
  else
    if (7 : Int32) ≤ p0 then
      (some ((-1 : Int32), σ))
    else
      gd (ib p0 7) <|
      some (tAbove.getD p0.toNatClampNeg 0, σ)
set_option maxHeartbeats 4000000 in
set_option maxRecDepth 100000 in
theorem m_X7_above (l : Launch) (E : EV) (p0 : Int32) (σ : Mem) (rr : Int32) (τ : Mem) (h : f_X7_above p0 σ = some (rr, τ)) : MI TC l E yX7_above cX7_above 1 (some .int) 0 0 [.int p0] σ rr τ := by
  refine mt_start RX7 (by decide +kernel) rfl (Nat.le_of_ble_eq_true rfl) (fun p e s m args below meth c ls C hw hl => ?_)
  replace hl : lv_has ls 1 [(0, .int p0)] := hl
  obtain ⟨hx, hb, hml, hown, hts, hK, hSt, hlk, hr⟩ := id C
  unfold f_X7_above at h
  refine lv_iload_n hx hb dX7_above_0 rfl (lv_at hl 0 rfl) ?_
  refine lv_if_lt (tgt := 18) hx hb dX7_above_1 (by decide) (fun c_1 => ?_) (fun c_1 => ?_)
  · replace h := it_at h c_1
    refine lv_iconst (v := (-1)) hx hb dX7_above_18 (by decide) ?_
    obtain ⟨rfl, rfl⟩ := ret_at h
    exact q_iret C hw dX7_above_19
  · replace h := ie_at h c_1
    refine lv_iload_n hx hb dX7_above_4 rfl (lv_at hl 0 rfl) ?_
    refine lv_bipush (v := 7) hx hb dX7_above_5 (by decide) ?_
    refine lv_icmp_ge (tgt := 18) hx hb dX7_above_7 (by decide) (fun c_2 => ?_) (fun c_2 => ?_)
    · replace h := it_at h c_2
      refine lv_iconst (v := (-1)) hx hb dX7_above_18 (by decide) ?_
      obtain ⟨rfl, rfl⟩ := ret_at h
      exact q_iret C hw dX7_above_19
    · replace h := ie_at h c_2
      refine q_tab0 C hw kw_943 dX7_above_10 ?_
      refine lv_iload_n hx hb dX7_above_13 rfl (lv_at hl 0 rfl) ?_
      obtain ⟨g_3, h⟩ := gd_at h
      refine q_tld0 C hw g_3 dX7_above_14 ?_
      refine lv_goto (tgt := 19) hx hb dX7_above_15 (by decide) ?_
      obtain ⟨rfl, rfl⟩ := ret_at h
      exact q_iret C hw dX7_above_19
def f_X0_doBody_19 (rc : Int32 → Int32 → Int32 → Int32 → Mem → Option (Int32 × Mem)) (x1 : Int32) (x2 : Int32) (x3 : Int32) (x4 : Int32) (σ : Mem) : Option (Int32 × Mem) :=
  lt (sI σ 46 1 ((gI σ 46 1) + (1 : Int32))) fun σ_4 =>
  if x1 = (1 : Int32) then
    (some (x3 + (gI σ_4 46 2), σ_4))
  else
  if x1 = (2 : Int32) then
    (bd (rc (0 : Int32) (gI σ_4 46 3) x3 x4 σ_4) fun r_7 σ_8 =>
    some (r_7 - (gI σ_8 46 4), σ_8))
  else
  if x1 = (3 : Int32) then
    (bd (rc (1 : Int32) (gI σ_4 46 3) x3 x4 σ_4) fun r_11 σ_12 =>
    some (r_11 * (2 : Int32), σ_12))
  else
  if x1 = (11 : Int32) then
    (bd (rc (0 : Int32) x2 (x3 * (3 : Int32)) x4 σ_4) fun r_15 σ_16 =>
    some (r_15, σ_16))
  else
  if x1 = (21 : Int32) then
    (bd (rc (2 : Int32) x2 x3 x4 σ_4) fun r_19 σ_20 =>
    some (r_19 ^^^ (7 : Int32), σ_20))
  else
  if x1 = (31 : Int32) then
    (bd (rc (1 : Int32) x2 x3 x4 σ_4) fun r_23 σ_24 =>
    some (-r_23, σ_24))
  else
  if x1 = (41 : Int32) then
    (bd (rc (2 : Int32) x2 (x3 - (1 : Int32)) x4 σ_4) fun r_27 σ_28 =>
    bd (rc (0 : Int32) (gI σ_28 46 3) (2 : Int32) x4 σ_28) fun r_30 σ_31 =>
    some (r_27 + r_30, σ_31))
  else
  if x1 = (51 : Int32) then
    (bd (rc (0 : Int32) x2 x3 x4 σ_4) fun r_34 σ_35 =>
    some (r_34 ^^^ (gI σ_35 46 2), σ_35))
  else
  bd (rc (1 : Int32) x2 x3 x4 σ_4) fun r_37 σ_38 =>
  some (r_37 + (gI σ_38 46 4), σ_38)
def f_X0_doBody (rc : Int32 → Int32 → Int32 → Int32 → Mem → Option (Int32 × Mem)) (p1 : Int32) (p2 : Int32) (p3 : Int32) (p4 : Int32) (σ : Mem) : Option (Int32 × Mem) :=
  if (20 : Int32) ≤ (gI σ 46 1) then
    (f_X0_doBody_19 rc p1 p2 p3 p4 σ)
  else
    gd (ib (gI σ 46 1) 20) <|
    lt (sI σ 47 (gI σ 46 1).toNatClampNeg p1) fun σ_2 =>
    f_X0_doBody_19 rc p1 p2 p3 p4 σ_2
set_option maxHeartbeats 4000000 in
set_option maxRecDepth 100000 in
theorem w_X0_doBody_19 {p : Program} {l : Launch} {e : Env} {s : State} {m : MethodId} {args : Array Value} {below : List Frame} {meth : Method} {c : Code} {E : EV} {rr : Int32} {τ : Mem} (C : Cx E p s m args meth c cX0_doBody 5 (some .int) RX0) {rc : Int32 → Int32 → Int32 → Int32 → Mem → Option (Int32 × Mem)} {fr lo : Nat} (hF : 40 ≤ fr) (hL : 1200 ≤ lo) (hrc : ∀ (p1 : Int32) (p2 : Int32) (p3 : Int32) (p4 : Int32) (σ : Mem) (rr : Int32) (τ : Mem), rc p1 p2 p3 p4 σ = some (rr, τ) → MI TC l E yX0_perform cX0_perform 7 (some .int) fr lo [.ref (E.2.1 (46)), .int p1, .int p2, .int p3, .int p4] σ rr τ) : ∀ (x1 : Int32) (x2 : Int32) (x3 : Int32) (x4 : Int32) (σ : Mem) (H : Heap) (locs : List Loc) (ls : Array Slot) (hw : Wd TC E σ s H locs) (hl : lv_has ls 5 [(0, .ref (E.2.1 (46))), (1, .int x1), (2, .int x2), (3, .int x3), (4, .int x4)]) (h : f_X0_doBody_19 rc x1 x2 x3 x4 σ = some (rr, τ)), W p l e { frames := fr + 1, cells := 0, slots := 0, locals := lo + 26 } s m args below meth c H locs 0 0 (MQ below (QI TC E rr τ) args s 0 0 E.2.2.1) (F0 m 19 ls []) := by
  obtain ⟨hx, hb, hml, hown, hts, hK, hSt, hlk, hr⟩ := id C
  intro x1 x2 x3 x4 σ H locs ls hw hl h
  unfold f_X0_doBody_19 at h
  refine lv_aload_n hx hb dX0_doBody_19 rfl (lv_at hl 0 rfl) ?_
  refine lv_dup hx hb dX0_doBody_20 rfl ?_
  refine gf_0_1 C hw tC_46 kw_346 dX0_doBody_21 ?_
  refine lv_iconst (v := 1) hx hb dX0_doBody_24 (by decide) ?_
  refine lv_iadd hx hb dX0_doBody_25 ?_
  obtain ⟨σ_4, eσ_4, h⟩ := lt_at h
  refine pf_0_1 C hw tC_46 kw_346 eσ_4 dX0_doBody_26 (fun H locs hw => ?_)
  refine lv_iload_n hx hb dX0_doBody_29 rfl (lv_at hl 1 rfl) ?_
  by_cases c_5 : x1 = (1 : Int32)
  · replace h := it_at h c_5
    refine lv_lookup (off := 74) (tgt := 104) hx hb dX0_doBody_30 (by decide) (by rw [c_5]; decide) (by decide) ?_
    refine lv_iload_n hx hb dX0_doBody_104 rfl (lv_at hl 3 rfl) ?_
    refine lv_aload_n hx hb dX0_doBody_105 rfl (lv_at hl 0 rfl) ?_
    refine gf_0_2 C hw tC_46 kw_348 dX0_doBody_106 ?_
    refine lv_iadd hx hb dX0_doBody_109 ?_
    obtain ⟨rfl, rfl⟩ := ret_at h
    exact q_iret C hw dX0_doBody_110
  replace h := ie_at h c_5
  by_cases c_6 : x1 = (2 : Int32)
  · replace h := it_at h c_6
    refine lv_lookup (off := 81) (tgt := 111) hx hb dX0_doBody_30 (by decide) (by rw [c_6]; decide) (by decide) ?_
    refine lv_aload_n hx hb dX0_doBody_111 rfl (lv_at hl 0 rfl) ?_
    refine lv_iconst (v := 0) hx hb dX0_doBody_112 (by decide) ?_
    refine lv_aload_n hx hb dX0_doBody_113 rfl (lv_at hl 0 rfl) ?_
    refine gf_0_3 C hw tC_46 kw_349 dX0_doBody_114 ?_
    refine lv_iload_n hx hb dX0_doBody_117 rfl (lv_at hl 3 rfl) ?_
    refine lv_iload hx hb dX0_doBody_118 (lv_at hl 4 rfl) ?_
    obtain ⟨r_7, σ_8, h_9, h⟩ := bd_at h
    refine q_afterI hw (q_runV C hw hl.1 (As := [.int (0 : Int32), .int (gI σ_4 46 3), .int x3, .int x4]) (rest := []) (hrc (0 : Int32) (gI σ_4 46 3) x3 x4 σ_4 r_7 σ_8 h_9) yq_X0_perform tC_46 rfl rfl kw_931 ⟨by dsimp only; omega, by dsimp only; omega⟩ rfl (Nat.le_of_ble_eq_true rfl) ⟨Nat.zero_le _, Nat.zero_le _⟩ dX0_doBody_120) (fun H locs hw => ?_)
    refine lv_aload_n hx hb dX0_doBody_123 rfl (lv_at hl 0 rfl) ?_
    refine gf_0_4 C hw tC_46 kw_350 dX0_doBody_124 ?_
    refine lv_isub hx hb dX0_doBody_127 ?_
    obtain ⟨rfl, rfl⟩ := ret_at h
    exact q_iret C hw dX0_doBody_128
  replace h := ie_at h c_6
  by_cases c_10 : x1 = (3 : Int32)
  · replace h := it_at h c_10
    refine lv_lookup (off := 99) (tgt := 129) hx hb dX0_doBody_30 (by decide) (by rw [c_10]; decide) (by decide) ?_
    refine lv_aload_n hx hb dX0_doBody_129 rfl (lv_at hl 0 rfl) ?_
    refine lv_iconst (v := 1) hx hb dX0_doBody_130 (by decide) ?_
    refine lv_aload_n hx hb dX0_doBody_131 rfl (lv_at hl 0 rfl) ?_
    refine gf_0_3 C hw tC_46 kw_349 dX0_doBody_132 ?_
    refine lv_iload_n hx hb dX0_doBody_135 rfl (lv_at hl 3 rfl) ?_
    refine lv_iload hx hb dX0_doBody_136 (lv_at hl 4 rfl) ?_
    obtain ⟨r_11, σ_12, h_13, h⟩ := bd_at h
    refine q_afterI hw (q_runV C hw hl.1 (As := [.int (1 : Int32), .int (gI σ_4 46 3), .int x3, .int x4]) (rest := []) (hrc (1 : Int32) (gI σ_4 46 3) x3 x4 σ_4 r_11 σ_12 h_13) yq_X0_perform tC_46 rfl rfl kw_931 ⟨by dsimp only; omega, by dsimp only; omega⟩ rfl (Nat.le_of_ble_eq_true rfl) ⟨Nat.zero_le _, Nat.zero_le _⟩ dX0_doBody_138) (fun H locs hw => ?_)
    refine lv_iconst (v := 2) hx hb dX0_doBody_141 (by decide) ?_
    refine lv_imul hx hb dX0_doBody_142 ?_
    obtain ⟨rfl, rfl⟩ := ret_at h
    exact q_iret C hw dX0_doBody_143
  replace h := ie_at h c_10
  by_cases c_14 : x1 = (11 : Int32)
  · replace h := it_at h c_14
    refine lv_lookup (off := 114) (tgt := 144) hx hb dX0_doBody_30 (by decide) (by rw [c_14]; decide) (by decide) ?_
    refine lv_aload_n hx hb dX0_doBody_144 rfl (lv_at hl 0 rfl) ?_
    refine lv_iconst (v := 0) hx hb dX0_doBody_145 (by decide) ?_
    refine lv_iload_n hx hb dX0_doBody_146 rfl (lv_at hl 2 rfl) ?_
    refine lv_iload_n hx hb dX0_doBody_147 rfl (lv_at hl 3 rfl) ?_
    refine lv_iconst (v := 3) hx hb dX0_doBody_148 (by decide) ?_
    refine lv_imul hx hb dX0_doBody_149 ?_
    refine lv_iload hx hb dX0_doBody_150 (lv_at hl 4 rfl) ?_
    obtain ⟨r_15, σ_16, h_17, h⟩ := bd_at h
    refine q_afterI hw (q_runV C hw hl.1 (As := [.int (0 : Int32), .int x2, .int (x3 * (3 : Int32)), .int x4]) (rest := []) (hrc (0 : Int32) x2 (x3 * (3 : Int32)) x4 σ_4 r_15 σ_16 h_17) yq_X0_perform tC_46 rfl rfl kw_931 ⟨by dsimp only; omega, by dsimp only; omega⟩ rfl (Nat.le_of_ble_eq_true rfl) ⟨Nat.zero_le _, Nat.zero_le _⟩ dX0_doBody_152) (fun H locs hw => ?_)
    obtain ⟨rfl, rfl⟩ := ret_at h
    exact q_iret C hw dX0_doBody_155
  replace h := ie_at h c_14
  by_cases c_18 : x1 = (21 : Int32)
  · replace h := it_at h c_18
    refine lv_lookup (off := 126) (tgt := 156) hx hb dX0_doBody_30 (by decide) (by rw [c_18]; decide) (by decide) ?_
    refine lv_aload_n hx hb dX0_doBody_156 rfl (lv_at hl 0 rfl) ?_
    refine lv_iconst (v := 2) hx hb dX0_doBody_157 (by decide) ?_
    refine lv_iload_n hx hb dX0_doBody_158 rfl (lv_at hl 2 rfl) ?_
    refine lv_iload_n hx hb dX0_doBody_159 rfl (lv_at hl 3 rfl) ?_
    refine lv_iload hx hb dX0_doBody_160 (lv_at hl 4 rfl) ?_
    obtain ⟨r_19, σ_20, h_21, h⟩ := bd_at h
    refine q_afterI hw (q_runV C hw hl.1 (As := [.int (2 : Int32), .int x2, .int x3, .int x4]) (rest := []) (hrc (2 : Int32) x2 x3 x4 σ_4 r_19 σ_20 h_21) yq_X0_perform tC_46 rfl rfl kw_931 ⟨by dsimp only; omega, by dsimp only; omega⟩ rfl (Nat.le_of_ble_eq_true rfl) ⟨Nat.zero_le _, Nat.zero_le _⟩ dX0_doBody_162) (fun H locs hw => ?_)
    refine lv_bipush (v := 7) hx hb dX0_doBody_165 (by decide) ?_
    refine lv_ixor hx hb dX0_doBody_167 ?_
    obtain ⟨rfl, rfl⟩ := ret_at h
    exact q_iret C hw dX0_doBody_168
  replace h := ie_at h c_18
  by_cases c_22 : x1 = (31 : Int32)
  · replace h := it_at h c_22
    refine lv_lookup (off := 139) (tgt := 169) hx hb dX0_doBody_30 (by decide) (by rw [c_22]; decide) (by decide) ?_
    refine lv_aload_n hx hb dX0_doBody_169 rfl (lv_at hl 0 rfl) ?_
    refine lv_iconst (v := 1) hx hb dX0_doBody_170 (by decide) ?_
    refine lv_iload_n hx hb dX0_doBody_171 rfl (lv_at hl 2 rfl) ?_
    refine lv_iload_n hx hb dX0_doBody_172 rfl (lv_at hl 3 rfl) ?_
    refine lv_iload hx hb dX0_doBody_173 (lv_at hl 4 rfl) ?_
    obtain ⟨r_23, σ_24, h_25, h⟩ := bd_at h
    refine q_afterI hw (q_runV C hw hl.1 (As := [.int (1 : Int32), .int x2, .int x3, .int x4]) (rest := []) (hrc (1 : Int32) x2 x3 x4 σ_4 r_23 σ_24 h_25) yq_X0_perform tC_46 rfl rfl kw_931 ⟨by dsimp only; omega, by dsimp only; omega⟩ rfl (Nat.le_of_ble_eq_true rfl) ⟨Nat.zero_le _, Nat.zero_le _⟩ dX0_doBody_175) (fun H locs hw => ?_)
    refine lv_ineg hx hb dX0_doBody_178 ?_
    obtain ⟨rfl, rfl⟩ := ret_at h
    exact q_iret C hw dX0_doBody_179
  replace h := ie_at h c_22
  by_cases c_26 : x1 = (41 : Int32)
  · replace h := it_at h c_26
    refine lv_lookup (off := 150) (tgt := 180) hx hb dX0_doBody_30 (by decide) (by rw [c_26]; decide) (by decide) ?_
    refine lv_aload_n hx hb dX0_doBody_180 rfl (lv_at hl 0 rfl) ?_
    refine lv_iconst (v := 2) hx hb dX0_doBody_181 (by decide) ?_
    refine lv_iload_n hx hb dX0_doBody_182 rfl (lv_at hl 2 rfl) ?_
    refine lv_iload_n hx hb dX0_doBody_183 rfl (lv_at hl 3 rfl) ?_
    refine lv_iconst (v := 1) hx hb dX0_doBody_184 (by decide) ?_
    refine lv_isub hx hb dX0_doBody_185 ?_
    refine lv_iload hx hb dX0_doBody_186 (lv_at hl 4 rfl) ?_
    obtain ⟨r_27, σ_28, h_29, h⟩ := bd_at h
    refine q_afterI hw (q_runV C hw hl.1 (As := [.int (2 : Int32), .int x2, .int (x3 - (1 : Int32)), .int x4]) (rest := []) (hrc (2 : Int32) x2 (x3 - (1 : Int32)) x4 σ_4 r_27 σ_28 h_29) yq_X0_perform tC_46 rfl rfl kw_931 ⟨by dsimp only; omega, by dsimp only; omega⟩ rfl (Nat.le_of_ble_eq_true rfl) ⟨Nat.zero_le _, Nat.zero_le _⟩ dX0_doBody_188) (fun H locs hw => ?_)
    refine lv_aload_n hx hb dX0_doBody_191 rfl (lv_at hl 0 rfl) ?_
    refine lv_iconst (v := 0) hx hb dX0_doBody_192 (by decide) ?_
    refine lv_aload_n hx hb dX0_doBody_193 rfl (lv_at hl 0 rfl) ?_
    refine gf_0_3 C hw tC_46 kw_349 dX0_doBody_194 ?_
    refine lv_iconst (v := 2) hx hb dX0_doBody_197 (by decide) ?_
    refine lv_iload hx hb dX0_doBody_198 (lv_at hl 4 rfl) ?_
    obtain ⟨r_30, σ_31, h_32, h⟩ := bd_at h
    refine q_afterI hw (q_runV C hw hl.1 (As := [.int (0 : Int32), .int (gI σ_28 46 3), .int (2 : Int32), .int x4]) (rest := [.int r_27]) (hrc (0 : Int32) (gI σ_28 46 3) (2 : Int32) x4 σ_28 r_30 σ_31 h_32) yq_X0_perform tC_46 rfl rfl kw_931 ⟨by dsimp only; omega, by dsimp only; omega⟩ rfl (Nat.le_of_ble_eq_true rfl) ⟨Nat.zero_le _, Nat.zero_le _⟩ dX0_doBody_200) (fun H locs hw => ?_)
    refine lv_iadd hx hb dX0_doBody_203 ?_
    obtain ⟨rfl, rfl⟩ := ret_at h
    exact q_iret C hw dX0_doBody_204
  replace h := ie_at h c_26
  by_cases c_33 : x1 = (51 : Int32)
  · replace h := it_at h c_33
    refine lv_lookup (off := 175) (tgt := 205) hx hb dX0_doBody_30 (by decide) (by rw [c_33]; decide) (by decide) ?_
    refine lv_aload_n hx hb dX0_doBody_205 rfl (lv_at hl 0 rfl) ?_
    refine lv_iconst (v := 0) hx hb dX0_doBody_206 (by decide) ?_
    refine lv_iload_n hx hb dX0_doBody_207 rfl (lv_at hl 2 rfl) ?_
    refine lv_iload_n hx hb dX0_doBody_208 rfl (lv_at hl 3 rfl) ?_
    refine lv_iload hx hb dX0_doBody_209 (lv_at hl 4 rfl) ?_
    obtain ⟨r_34, σ_35, h_36, h⟩ := bd_at h
    refine q_afterI hw (q_runV C hw hl.1 (As := [.int (0 : Int32), .int x2, .int x3, .int x4]) (rest := []) (hrc (0 : Int32) x2 x3 x4 σ_4 r_34 σ_35 h_36) yq_X0_perform tC_46 rfl rfl kw_931 ⟨by dsimp only; omega, by dsimp only; omega⟩ rfl (Nat.le_of_ble_eq_true rfl) ⟨Nat.zero_le _, Nat.zero_le _⟩ dX0_doBody_211) (fun H locs hw => ?_)
    refine lv_aload_n hx hb dX0_doBody_214 rfl (lv_at hl 0 rfl) ?_
    refine gf_0_2 C hw tC_46 kw_348 dX0_doBody_215 ?_
    refine lv_ixor hx hb dX0_doBody_218 ?_
    obtain ⟨rfl, rfl⟩ := ret_at h
    exact q_iret C hw dX0_doBody_219
  replace h := ie_at h c_33
  have nc_5 : ¬ (1 : Int) = (x1).toInt := fun q => c_5 (lk_eq q)
  have nc_6 : ¬ (2 : Int) = (x1).toInt := fun q => c_6 (lk_eq q)
  have nc_10 : ¬ (3 : Int) = (x1).toInt := fun q => c_10 (lk_eq q)
  have nc_14 : ¬ (11 : Int) = (x1).toInt := fun q => c_14 (lk_eq q)
  have nc_18 : ¬ (21 : Int) = (x1).toInt := fun q => c_18 (lk_eq q)
  have nc_22 : ¬ (31 : Int) = (x1).toInt := fun q => c_22 (lk_eq q)
  have nc_26 : ¬ (41 : Int) = (x1).toInt := fun q => c_26 (lk_eq q)
  have nc_33 : ¬ (51 : Int) = (x1).toInt := fun q => c_33 (lk_eq q)
  refine lv_lookup (off := 190) (tgt := 220) hx hb dX0_doBody_30 (by decide) (by simp only [List.toList_toArray, Op.lookupswitch.offset_cons, Op.lookupswitch.offset_nil, if_neg nc_5, if_neg nc_6, if_neg nc_10, if_neg nc_14, if_neg nc_18, if_neg nc_22, if_neg nc_26, if_neg nc_33]) (by decide) ?_
  refine lv_aload_n hx hb dX0_doBody_220 rfl (lv_at hl 0 rfl) ?_
  refine lv_iconst (v := 1) hx hb dX0_doBody_221 (by decide) ?_
  refine lv_iload_n hx hb dX0_doBody_222 rfl (lv_at hl 2 rfl) ?_
  refine lv_iload_n hx hb dX0_doBody_223 rfl (lv_at hl 3 rfl) ?_
  refine lv_iload hx hb dX0_doBody_224 (lv_at hl 4 rfl) ?_
  obtain ⟨r_37, σ_38, h_39, h⟩ := bd_at h
  refine q_afterI hw (q_runV C hw hl.1 (As := [.int (1 : Int32), .int x2, .int x3, .int x4]) (rest := []) (hrc (1 : Int32) x2 x3 x4 σ_4 r_37 σ_38 h_39) yq_X0_perform tC_46 rfl rfl kw_931 ⟨by dsimp only; omega, by dsimp only; omega⟩ rfl (Nat.le_of_ble_eq_true rfl) ⟨Nat.zero_le _, Nat.zero_le _⟩ dX0_doBody_226) (fun H locs hw => ?_)
  refine lv_aload_n hx hb dX0_doBody_229 rfl (lv_at hl 0 rfl) ?_
  refine gf_0_4 C hw tC_46 kw_350 dX0_doBody_230 ?_
  refine lv_iadd hx hb dX0_doBody_233 ?_
  obtain ⟨rfl, rfl⟩ := ret_at h
  exact q_iret C hw dX0_doBody_234
set_option maxHeartbeats 4000000 in
set_option maxRecDepth 100000 in
theorem m_X0_doBody (l : Launch) (E : EV) (rc : Int32 → Int32 → Int32 → Int32 → Mem → Option (Int32 × Mem)) {fr lo : Nat} (hF : 40 ≤ fr) (hL : 1200 ≤ lo) (hrc : ∀ (p1 : Int32) (p2 : Int32) (p3 : Int32) (p4 : Int32) (σ : Mem) (rr : Int32) (τ : Mem), rc p1 p2 p3 p4 σ = some (rr, τ) → MI TC l E yX0_perform cX0_perform 7 (some .int) fr lo [.ref (E.2.1 (46)), .int p1, .int p2, .int p3, .int p4] σ rr τ) (p1 : Int32) (p2 : Int32) (p3 : Int32) (p4 : Int32) (σ : Mem) (rr : Int32) (τ : Mem) (h : f_X0_doBody rc p1 p2 p3 p4 σ = some (rr, τ)) : MI TC l E yX0_doBody cX0_doBody 5 (some .int) (fr + 1) (lo + 26) [.ref (E.2.1 (46)), .int p1, .int p2, .int p3, .int p4] σ rr τ := by
  refine mt_start RX0 (by decide +kernel) rfl (Nat.le_of_ble_eq_true rfl) (fun p e s m args below meth c ls C hw hl => ?_)
  replace hl : lv_has ls 5 [(0, .ref (E.2.1 (46))), (1, .int p1), (2, .int p2), (3, .int p3), (4, .int p4)] := hl
  obtain ⟨hx, hb, hml, hown, hts, hK, hSt, hlk, hr⟩ := id C
  unfold f_X0_doBody at h
  refine lv_aload_n hx hb dX0_doBody_0 rfl (lv_at hl 0 rfl) ?_
  refine gf_0_1 C hw tC_46 kw_346 dX0_doBody_1 ?_
  refine lv_bipush (v := 20) hx hb dX0_doBody_4 (by decide) ?_
  refine lv_icmp_ge (tgt := 19) hx hb dX0_doBody_6 (by decide) (fun c_1 => ?_) (fun c_1 => ?_)
  · replace h := it_at h c_1
    exact w_X0_doBody_19 C hF hL hrc _ _ _ _ _ _ _ _ hw (lv_sub hl [0, 1, 2, 3, 4] rfl) h
  · replace h := ie_at h c_1
    refine lv_aload_n hx hb dX0_doBody_9 rfl (lv_at hl 0 rfl) ?_
    refine gf_0_0 C hw tC_46 kw_344 (c1 := 47) rfl dX0_doBody_10 ?_
    refine lv_aload_n hx hb dX0_doBody_13 rfl (lv_at hl 0 rfl) ?_
    refine gf_0_1 C hw tC_46 kw_346 dX0_doBody_14 ?_
    refine lv_iload_n hx hb dX0_doBody_17 rfl (lv_at hl 1 rfl) ?_
    obtain ⟨g_3, h⟩ := gd_at h
    obtain ⟨σ_2, eσ_2, h⟩ := lt_at h
    refine q_iast C hw tC_47 g_3 eσ_2 dX0_doBody_18 (fun H locs hw => ?_)
    exact w_X0_doBody_19 C hF hL hrc _ _ _ _ _ _ _ _ hw (lv_sub hl [0, 1, 2, 3, 4] rfl) h
def f_X0_perform_35 (rc : Int32 → Int32 → Int32 → Int32 → Mem → Option (Int32 × Mem)) (x1 : Int32) (x3 : Int32) (x4 : Int32) (x5 : Int32) (σ : Mem) : Option (Int32 × Mem) :=
  bd (f_X0_bodyOf x5 x1 σ) fun r_10 σ_11 =>
  if r_10 = 0 then
    (some ((0 : Int32), σ_11))
  else
    if x4 ≤ (40 : Int32) then
      (bd (f_X0_bodyOf x5 x1 σ_11) fun r_15 σ_16 =>
      bd (f_X7_above x5 σ_16) fun r_18 σ_19 =>
      bd (f_X0_doBody rc r_15 r_18 x3 (x4 + (1 : Int32)) σ_19) fun r_21 σ_22 =>
      some (r_21, σ_22))
    else
      some ((0 : Int32), σ_11)
def f_X0_perform_6 (rc : Int32 → Int32 → Int32 → Int32 → Mem → Option (Int32 × Mem)) (k6 : Int32 → Int32 → Int32 → Int32 → Int32 → Mem → Option (Int32 × Mem)) (x1 : Int32) (x3 : Int32) (x4 : Int32) (x5 : Int32) (x6 : Int32) (σ : Mem) : Option (Int32 × Mem) :=
  if (7 : Int32) ≤ x6 then
    (f_X0_perform_35 rc x1 x3 x4 x5 σ)
  else
    bd (f_X0_bodyOf x5 x1 σ) fun r_2 σ_3 =>
    if r_2 = 0 then
      (bd (f_X7_above x5 σ_3) fun r_6 σ_7 =>
      lt (x6 + (1 : Int32)) fun x6_9 =>
      k6 x1 x3 x4 r_6 x6_9 σ_7)
    else
      f_X0_perform_35 rc x1 x3 x4 x5 σ_3
def f_X0_perform_F (rc : Int32 → Int32 → Int32 → Int32 → Mem → Option (Int32 × Mem)) (p1 : Int32) (p2 : Int32) (p3 : Int32) (p4 : Int32) (σ : Mem) : Option (Int32 × Mem) :=
  fx6 (f_X0_perform_6 rc) FU p1 p3 p4 p2 (0 : Int32) σ
def f_X0_perform (p1 : Int32) (p2 : Int32) (p3 : Int32) (p4 : Int32) (σ : Mem) : Option (Int32 × Mem) := fx5 f_X0_perform_F 16 p1 p2 p3 p4 σ
set_option maxHeartbeats 4000000 in
set_option maxRecDepth 100000 in
theorem w_X0_perform_35 {p : Program} {l : Launch} {e : Env} {s : State} {m : MethodId} {args : Array Value} {below : List Frame} {meth : Method} {c : Code} {E : EV} {rr : Int32} {τ : Mem} (C : Cx E p s m args meth c cX0_perform 7 (some .int) RX0) {rc : Int32 → Int32 → Int32 → Int32 → Mem → Option (Int32 × Mem)} {fr lo : Nat} (hF : 40 ≤ fr) (hL : 1200 ≤ lo) (hrc : ∀ (p1 : Int32) (p2 : Int32) (p3 : Int32) (p4 : Int32) (σ : Mem) (rr : Int32) (τ : Mem), rc p1 p2 p3 p4 σ = some (rr, τ) → MI TC l E yX0_perform cX0_perform 7 (some .int) fr lo [.ref (E.2.1 (46)), .int p1, .int p2, .int p3, .int p4] σ rr τ) : ∀ (x1 : Int32) (x3 : Int32) (x4 : Int32) (x5 : Int32) (σ : Mem) (H : Heap) (locs : List Loc) (ls : Array Slot) (hw : Wd TC E σ s H locs) (hl : lv_has ls 7 [(0, .ref (E.2.1 (46))), (1, .int x1), (3, .int x3), (4, .int x4), (5, .int x5)]) (h : f_X0_perform_35 rc x1 x3 x4 x5 σ = some (rr, τ)), W p l e { frames := fr + 2, cells := 0, slots := 0, locals := lo + 50 } s m args below meth c H locs 0 0 (MQ below (QI TC E rr τ) args s 0 0 E.2.2.1) (F0 m 35 ls []) := by
  obtain ⟨hx, hb, hml, hown, hts, hK, hSt, hlk, hr⟩ := id C
  intro x1 x3 x4 x5 σ H locs ls hw hl h
  unfold f_X0_perform_35 at h
  refine lv_iload hx hb dX0_perform_35 (lv_at hl 4 rfl) ?_
  refine lv_iload_n hx hb dX0_perform_37 rfl (lv_at hl 1 rfl) ?_
  obtain ⟨r_10, σ_11, h_12, h⟩ := bd_at h
  refine q_afterI hw (q_runS C hw hl.1 (As := [.int x5, .int x1]) (rest := []) (m_X0_bodyOf l E x5 x1 σ r_10 σ_11 h_12) yq_X0_bodyOf kw_935 ⟨by dsimp only; omega, by dsimp only; omega⟩ rfl (Nat.le_of_ble_eq_true rfl) ⟨Nat.zero_le _, Nat.zero_le _⟩ dX0_perform_38) (fun H locs hw => ?_)
  refine lv_if_eq (tgt := 51) hx hb dX0_perform_41 (by decide) (fun c_13 => ?_) (fun c_13 => ?_)
  · replace h := it_at h c_13
    refine lv_iconst (v := 0) hx hb dX0_perform_51 (by decide) ?_
    obtain ⟨rfl, rfl⟩ := ret_at h
    exact q_iret C hw dX0_perform_52
  · replace h := ie_at h c_13
    refine lv_iload hx hb dX0_perform_44 (lv_at hl 3 rfl) ?_
    refine lv_bipush (v := 40) hx hb dX0_perform_46 (by decide) ?_
    refine lv_icmp_le (tgt := 53) hx hb dX0_perform_48 (by decide) (fun c_14 => ?_) (fun c_14 => ?_)
    · replace h := it_at h c_14
      refine lv_aload_n hx hb dX0_perform_53 rfl (lv_at hl 0 rfl) ?_
      refine lv_iload hx hb dX0_perform_54 (lv_at hl 4 rfl) ?_
      refine lv_iload_n hx hb dX0_perform_56 rfl (lv_at hl 1 rfl) ?_
      obtain ⟨r_15, σ_16, h_17, h⟩ := bd_at h
      refine q_afterI hw (q_runS C hw hl.1 (As := [.int x5, .int x1]) (rest := [.ref (E.2.1 (46))]) (m_X0_bodyOf l E x5 x1 σ_11 r_15 σ_16 h_17) yq_X0_bodyOf kw_935 ⟨by dsimp only; omega, by dsimp only; omega⟩ rfl (Nat.le_of_ble_eq_true rfl) ⟨Nat.zero_le _, Nat.zero_le _⟩ dX0_perform_57) (fun H locs hw => ?_)
      refine lv_iload hx hb dX0_perform_60 (lv_at hl 4 rfl) ?_
      obtain ⟨r_18, σ_19, h_20, h⟩ := bd_at h
      refine q_afterI hw (q_runS C hw hl.1 (As := [.int x5]) (rest := [.int r_15, .ref (E.2.1 (46))]) (m_X7_above l E x5 σ_16 r_18 σ_19 h_20) yq_X7_above kw_940 ⟨by dsimp only; omega, by dsimp only; omega⟩ rfl (Nat.le_of_ble_eq_true rfl) ⟨Nat.zero_le _, Nat.zero_le _⟩ dX0_perform_62) (fun H locs hw => ?_)
      refine lv_iload_n hx hb dX0_perform_65 rfl (lv_at hl 2 rfl) ?_
      refine lv_iload hx hb dX0_perform_66 (lv_at hl 3 rfl) ?_
      refine lv_iconst (v := 1) hx hb dX0_perform_68 (by decide) ?_
      refine lv_iadd hx hb dX0_perform_69 ?_
      obtain ⟨r_21, σ_22, h_23, h⟩ := bd_at h
      refine q_afterI hw (q_runV C hw hl.1 (As := [.int r_15, .int r_18, .int x3, .int (x4 + (1 : Int32))]) (rest := []) (m_X0_doBody l E rc hF hL hrc r_15 r_18 x3 (x4 + (1 : Int32)) σ_19 r_21 σ_22 h_23) yq_X0_doBody tC_46 rfl rfl kw_945 ⟨by dsimp only; omega, by dsimp only; omega⟩ rfl (Nat.le_of_ble_eq_true rfl) ⟨Nat.zero_le _, Nat.zero_le _⟩ dX0_perform_70) (fun H locs hw => ?_)
      obtain ⟨rfl, rfl⟩ := ret_at h
      exact q_iret C hw dX0_perform_73
    · replace h := ie_at h c_14
      refine lv_iconst (v := 0) hx hb dX0_perform_51 (by decide) ?_
      obtain ⟨rfl, rfl⟩ := ret_at h
      exact q_iret C hw dX0_perform_52
set_option maxHeartbeats 4000000 in
set_option maxRecDepth 100000 in
theorem w_X0_perform_6 {p : Program} {l : Launch} {e : Env} {s : State} {m : MethodId} {args : Array Value} {below : List Frame} {meth : Method} {c : Code} {E : EV} {rr : Int32} {τ : Mem} (C : Cx E p s m args meth c cX0_perform 7 (some .int) RX0) {rc : Int32 → Int32 → Int32 → Int32 → Mem → Option (Int32 × Mem)} {fr lo : Nat} (hF : 40 ≤ fr) (hL : 1200 ≤ lo) (hrc : ∀ (p1 : Int32) (p2 : Int32) (p3 : Int32) (p4 : Int32) (σ : Mem) (rr : Int32) (τ : Mem), rc p1 p2 p3 p4 σ = some (rr, τ) → MI TC l E yX0_perform cX0_perform 7 (some .int) fr lo [.ref (E.2.1 (46)), .int p1, .int p2, .int p3, .int p4] σ rr τ) : ∀ (n : Nat) (x1 : Int32) (x3 : Int32) (x4 : Int32) (x5 : Int32) (x6 : Int32) (σ : Mem) (H : Heap) (locs : List Loc) (ls : Array Slot) (hw : Wd TC E σ s H locs) (hl : lv_has ls 7 [(0, .ref (E.2.1 (46))), (1, .int x1), (3, .int x3), (4, .int x4), (5, .int x5), (6, .int x6)]) (h : fx6 (f_X0_perform_6 rc) n x1 x3 x4 x5 x6 σ = some (rr, τ)), W p l e { frames := fr + 2, cells := 0, slots := 0, locals := lo + 50 } s m args below meth c H locs 0 0 (MQ below (QI TC E rr τ) args s 0 0 E.2.2.1) (F0 m 6 ls []) := by
  obtain ⟨hx, hb, hml, hown, hts, hK, hSt, hlk, hr⟩ := id C
  intro n
  induction n with
  | zero =>
    intro x1 x3 x4 x5 x6 σ H locs ls hw hl h
    have h : none = some (rr, τ) := h
    cases h
  | succ n hk6 =>
    intro x1 x3 x4 x5 x6 σ H locs ls hw hl h
    replace h : f_X0_perform_6 rc (fx6 (f_X0_perform_6 rc) n) x1 x3 x4 x5 x6 σ = some (rr, τ) := h
    unfold f_X0_perform_6 at h
    refine lv_iload hx hb dX0_perform_6 (lv_at hl 5 rfl) ?_
    refine lv_bipush (v := 7) hx hb dX0_perform_8 (by decide) ?_
    refine lv_icmp_ge (tgt := 35) hx hb dX0_perform_10 (by decide) (fun c_1 => ?_) (fun c_1 => ?_)
    · replace h := it_at h c_1
      exact w_X0_perform_35 C hF hL hrc _ _ _ _ _ _ _ _ hw (lv_sub hl [0, 1, 2, 3, 4] rfl) h
    · replace h := ie_at h c_1
      refine lv_iload hx hb dX0_perform_13 (lv_at hl 4 rfl) ?_
      refine lv_iload_n hx hb dX0_perform_15 rfl (lv_at hl 1 rfl) ?_
      obtain ⟨r_2, σ_3, h_4, h⟩ := bd_at h
      refine q_afterI hw (q_runS C hw hl.1 (As := [.int x5, .int x1]) (rest := []) (m_X0_bodyOf l E x5 x1 σ r_2 σ_3 h_4) yq_X0_bodyOf kw_935 ⟨by dsimp only; omega, by dsimp only; omega⟩ rfl (Nat.le_of_ble_eq_true rfl) ⟨Nat.zero_le _, Nat.zero_le _⟩ dX0_perform_16) (fun H locs hw => ?_)
      refine lv_if_ne (tgt := 35) hx hb dX0_perform_19 (by decide) (fun c_5 => ?_) (fun c_5 => ?_)
      · replace h := ie_at h c_5
        exact w_X0_perform_35 C hF hL hrc _ _ _ _ _ _ _ _ hw (lv_sub hl [0, 1, 2, 3, 4] rfl) h
      · replace h := it_at h c_5
        refine lv_iload hx hb dX0_perform_22 (lv_at hl 4 rfl) ?_
        obtain ⟨r_6, σ_7, h_8, h⟩ := bd_at h
        refine q_afterI hw (q_runS C hw hl.1 (As := [.int x5]) (rest := []) (m_X7_above l E x5 σ_3 r_6 σ_7 h_8) yq_X7_above kw_940 ⟨by dsimp only; omega, by dsimp only; omega⟩ rfl (Nat.le_of_ble_eq_true rfl) ⟨Nat.zero_le _, Nat.zero_le _⟩ dX0_perform_24) (fun H locs hw => ?_)
        refine lv_istore (lv' := [(5, .int r_6), (0, .ref (E.2.1 (46))), (1, .int x1), (3, .int x3), (4, .int x4), (6, .int x6)]) hx hb dX0_perform_27 hl (by decide) rfl (fun ls hl => ?_)
        obtain ⟨x6_9, ex6_9, h⟩ := lt_at h
        refine lv_iinc (v := x6_9) (lv' := [(6, .int x6_9), (5, .int r_6), (0, .ref (E.2.1 (46))), (1, .int x1), (3, .int x3), (4, .int x4)]) hx hb dX0_perform_29 hl (k := 5) rfl (by rw [ex6_9]; rfl) (by decide) rfl (fun ls hl => ?_)
        refine lv_goto (tgt := 6) hx hb dX0_perform_32 (by decide) ?_
        exact hk6 _ _ _ _ _ _ _ _ _ hw (lv_sub hl [2, 3, 4, 5, 1, 0] rfl) h
set_option maxHeartbeats 4000000 in
set_option maxRecDepth 100000 in
theorem m_X0_perform_F (l : Launch) (E : EV) (rc : Int32 → Int32 → Int32 → Int32 → Mem → Option (Int32 × Mem)) {fr lo : Nat} (hF : 40 ≤ fr) (hL : 1200 ≤ lo) (hrc : ∀ (p1 : Int32) (p2 : Int32) (p3 : Int32) (p4 : Int32) (σ : Mem) (rr : Int32) (τ : Mem), rc p1 p2 p3 p4 σ = some (rr, τ) → MI TC l E yX0_perform cX0_perform 7 (some .int) fr lo [.ref (E.2.1 (46)), .int p1, .int p2, .int p3, .int p4] σ rr τ) (p1 : Int32) (p2 : Int32) (p3 : Int32) (p4 : Int32) (σ : Mem) (rr : Int32) (τ : Mem) (h : f_X0_perform_F rc p1 p2 p3 p4 σ = some (rr, τ)) : MI TC l E yX0_perform cX0_perform 7 (some .int) (fr + 2) (lo + 50) [.ref (E.2.1 (46)), .int p1, .int p2, .int p3, .int p4] σ rr τ := by
  refine mt_start RX0 (by decide +kernel) rfl (Nat.le_of_ble_eq_true rfl) (fun p e s m args below meth c ls C hw hl => ?_)
  replace hl : lv_has ls 7 [(0, .ref (E.2.1 (46))), (1, .int p1), (2, .int p2), (3, .int p3), (4, .int p4)] := hl
  obtain ⟨hx, hb, hml, hown, hts, hK, hSt, hlk, hr⟩ := id C
  unfold f_X0_perform_F at h
  refine lv_iload_n hx hb dX0_perform_0 rfl (lv_at hl 2 rfl) ?_
  refine lv_istore (lv' := [(5, .int p2), (0, .ref (E.2.1 (46))), (1, .int p1), (2, .int p2), (3, .int p3), (4, .int p4)]) hx hb dX0_perform_1 hl (by decide) rfl (fun ls hl => ?_)
  refine lv_iconst (v := 0) hx hb dX0_perform_3 (by decide) ?_
  refine lv_istore (lv' := [(6, .int (0 : Int32)), (5, .int p2), (0, .ref (E.2.1 (46))), (1, .int p1), (2, .int p2), (3, .int p3), (4, .int p4)]) hx hb dX0_perform_4 hl (by decide) rfl (fun ls hl => ?_)
  exact w_X0_perform_6 C hF hL hrc _ _ _ _ _ _ _ _ _ _ hw (lv_sub hl [2, 3, 5, 6, 1, 0] rfl) h
theorem md_X0_perform (l : Launch) (E : EV) : ∀ (d : Nat) (p1 : Int32) (p2 : Int32) (p3 : Int32) (p4 : Int32) (σ : Mem) (rr : Int32) (τ : Mem), fx5 f_X0_perform_F d p1 p2 p3 p4 σ = some (rr, τ) → MI TC l E yX0_perform cX0_perform 7 (some .int) (40 + 2 * d) (1200 + 50 * d) [.ref (E.2.1 (46)), .int p1, .int p2, .int p3, .int p4] σ rr τ := by
  intro d
  induction d with
  | zero =>
    intro p1 p2 p3 p4 σ rr τ h
    have h : none = some (rr, τ) := h
    cases h
  | succ n ih =>
    intro p1 p2 p3 p4 σ rr τ h
    have e1 : 40 + 2 * (n + 1) = (40 + 2 * n) + 2 := by omega
    have e2 : 1200 + 50 * (n + 1) = (1200 + 50 * n) + 50 := by omega
    rw [e1, e2]
    exact m_X0_perform_F l E (rc := fx5 f_X0_perform_F n) (fr := 40 + 2 * n) (lo := 1200 + 50 * n) (by omega) (by omega) ih p1 p2 p3 p4 σ rr τ h
theorem m_X0_perform (l : Launch) (E : EV) (p1 : Int32) (p2 : Int32) (p3 : Int32) (p4 : Int32) (σ : Mem) (rr : Int32) (τ : Mem) (h : f_X0_perform p1 p2 p3 p4 σ = some (rr, τ)) : MI TC l E yX0_perform cX0_perform 7 (some .int) 72 2000 [.ref (E.2.1 (46)), .int p1, .int p2, .int p3, .int p4] σ rr τ := md_X0_perform l E 16 p1 p2 p3 p4 σ rr τ h
def f_X0_doBodyx (p1 : Int32) (p2 : Int32) (p3 : Int32) (p4 : Int32) (σ : Mem) : Option (Int32 × Mem) := f_X0_doBody f_X0_perform p1 p2 p3 p4 σ
theorem m_X0_doBodyx (l : Launch) (E : EV) (p1 : Int32) (p2 : Int32) (p3 : Int32) (p4 : Int32) (σ : Mem) (rr : Int32) (τ : Mem) (h : f_X0_doBodyx p1 p2 p3 p4 σ = some (rr, τ)) : MI TC l E yX0_doBody cX0_doBody 5 (some .int) 73 2026 [.ref (E.2.1 (46)), .int p1, .int p2, .int p3, .int p4] σ rr τ := m_X0_doBody l E (rc := f_X0_perform) (fr := 72) (lo := 2000) (by decide) (by decide) (m_X0_perform l E) p1 p2 p3 p4 σ rr τ h
def f_X0_begin (p2 : Int32) (p3 : Int32) (p4 : Int32) (σ : Mem) : Option (Int32 × Mem) :=
  lt (sI σ 46 2 p2) fun σ_1 =>
  gd (ib p2 10) <|
  lt (sI σ_1 46 3 (gI σ_1 9 p2.toNatClampNeg)) fun σ_3 =>
  gd (ib p2 10) <|
  lt (sI σ_3 46 4 (gI σ_3 10 p2.toNatClampNeg)) fun σ_5 =>
  bd (f_X0_perform p3 (gI σ_5 46 3) p4 (0 : Int32) σ_5) fun r_6 σ_7 =>
  some (r_6, σ_7)
set_option maxHeartbeats 4000000 in
set_option maxRecDepth 100000 in
theorem m_X0_begin (l : Launch) (E : EV) (p2 : Int32) (p3 : Int32) (p4 : Int32) (σ : Mem) (rr : Int32) (τ : Mem) (h : f_X0_begin p2 p3 p4 σ = some (rr, τ)) : MI TC l E yX0_begin cX0_begin 5 (some .int) 73 2026 [.ref (E.2.1 (46)), .ref (E.2.1 (8)), .int p2, .int p3, .int p4] σ rr τ := by
  refine mt_start RX0 (by decide +kernel) rfl (Nat.le_of_ble_eq_true rfl) (fun p e s m args below meth c ls C hw hl => ?_)
  replace hl : lv_has ls 5 [(0, .ref (E.2.1 (46))), (1, .ref (E.2.1 (8))), (2, .int p2), (3, .int p3), (4, .int p4)] := hl
  obtain ⟨hx, hb, hml, hown, hts, hK, hSt, hlk, hr⟩ := id C
  unfold f_X0_begin at h
  refine lv_aload_n hx hb dX0_begin_0 rfl (lv_at hl 0 rfl) ?_
  refine lv_iload_n hx hb dX0_begin_1 rfl (lv_at hl 2 rfl) ?_
  obtain ⟨σ_1, eσ_1, h⟩ := lt_at h
  refine pf_0_2 C hw tC_46 kw_348 eσ_1 dX0_begin_2 (fun H locs hw => ?_)
  refine lv_aload_n hx hb dX0_begin_5 rfl (lv_at hl 0 rfl) ?_
  refine lv_aload_n hx hb dX0_begin_6 rfl (lv_at hl 1 rfl) ?_
  refine gf_7_0 C hw tC_8 kw_178 (c1 := 9) rfl dX0_begin_7 ?_
  refine lv_iload_n hx hb dX0_begin_10 rfl (lv_at hl 2 rfl) ?_
  obtain ⟨g_2, h⟩ := gd_at h
  refine q_iald C hw tC_9 g_2 dX0_begin_11 ?_
  obtain ⟨σ_3, eσ_3, h⟩ := lt_at h
  refine pf_0_3 C hw tC_46 kw_349 eσ_3 dX0_begin_12 (fun H locs hw => ?_)
  refine lv_aload_n hx hb dX0_begin_15 rfl (lv_at hl 0 rfl) ?_
  refine lv_aload_n hx hb dX0_begin_16 rfl (lv_at hl 1 rfl) ?_
  refine gf_7_1 C hw tC_8 kw_182 (c1 := 10) rfl dX0_begin_17 ?_
  refine lv_iload_n hx hb dX0_begin_20 rfl (lv_at hl 2 rfl) ?_
  obtain ⟨g_4, h⟩ := gd_at h
  refine q_iald C hw tC_10 g_4 dX0_begin_21 ?_
  obtain ⟨σ_5, eσ_5, h⟩ := lt_at h
  refine pf_0_4 C hw tC_46 kw_350 eσ_5 dX0_begin_22 (fun H locs hw => ?_)
  refine lv_aload_n hx hb dX0_begin_25 rfl (lv_at hl 0 rfl) ?_
  refine lv_iload_n hx hb dX0_begin_26 rfl (lv_at hl 3 rfl) ?_
  refine lv_aload_n hx hb dX0_begin_27 rfl (lv_at hl 0 rfl) ?_
  refine gf_0_3 C hw tC_46 kw_349 dX0_begin_28 ?_
  refine lv_iload hx hb dX0_begin_31 (lv_at hl 4 rfl) ?_
  refine lv_iconst (v := 0) hx hb dX0_begin_33 (by decide) ?_
  obtain ⟨r_6, σ_7, h_8, h⟩ := bd_at h
  refine q_afterI hw (q_runV C hw hl.1 (As := [.int p3, .int (gI σ_5 46 3), .int p4, .int (0 : Int32)]) (rest := []) (m_X0_perform l E p3 (gI σ_5 46 3) p4 (0 : Int32) σ_5 r_6 σ_7 h_8) yq_X0_perform tC_46 rfl rfl kw_931 ⟨Nat.le_of_ble_eq_true rfl, Nat.le_of_ble_eq_true rfl⟩ rfl (Nat.le_of_ble_eq_true rfl) ⟨Nat.zero_le _, Nat.zero_le _⟩ dX0_begin_34) (fun H locs hw => ?_)
  obtain ⟨rfl, rfl⟩ := ret_at h
  exact q_iret C hw dX0_begin_37
def f_X0_clear (σ : Mem) : Option Mem :=
  lt (sI σ 46 1 (0 : Int32)) fun σ_1 =>
  some σ_1
set_option maxHeartbeats 4000000 in
set_option maxRecDepth 100000 in
theorem m_X0_clear (l : Launch) (E : EV) (σ : Mem) (τ : Mem) (h : f_X0_clear  σ = some τ) : MV TC l E yX0_clear cX0_clear 1 none 0 0 [.ref (E.2.1 (46))] σ τ := by
  refine mt_start RX0 (by decide +kernel) rfl (Nat.le_of_ble_eq_true rfl) (fun p e s m args below meth c ls C hw hl => ?_)
  replace hl : lv_has ls 1 [(0, .ref (E.2.1 (46)))] := hl
  obtain ⟨hx, hb, hml, hown, hts, hK, hSt, hlk, hr⟩ := id C
  unfold f_X0_clear at h
  refine lv_aload_n hx hb dX0_clear_0 rfl (lv_at hl 0 rfl) ?_
  refine lv_iconst (v := 0) hx hb dX0_clear_1 (by decide) ?_
  obtain ⟨σ_1, eσ_1, h⟩ := lt_at h
  refine pf_0_1 C hw tC_46 kw_346 eσ_1 dX0_clear_2 (fun H locs hw => ?_)
  cases h
  exact q_vret C hw dX0_clear_5
def f_X0_kept (σ : Mem) : Option (Int32 × Mem) :=
  some (imn (gI σ 46 1) (20 : Int32), σ)
set_option maxHeartbeats 4000000 in
set_option maxRecDepth 100000 in
theorem m_X0_kept (l : Launch) (E : EV) (σ : Mem) (rr : Int32) (τ : Mem) (h : f_X0_kept  σ = some (rr, τ)) : MI TC l E yX0_kept cX0_kept 1 (some .int) 1 21 [.ref (E.2.1 (46))] σ rr τ := by
  refine mt_start RX0 (by decide +kernel) rfl (Nat.le_of_ble_eq_true rfl) (fun p e s m args below meth c ls C hw hl => ?_)
  replace hl : lv_has ls 1 [(0, .ref (E.2.1 (46)))] := hl
  obtain ⟨hx, hb, hml, hown, hts, hK, hSt, hlk, hr⟩ := id C
  unfold f_X0_kept at h
  refine lv_aload_n hx hb dX0_kept_0 rfl (lv_at hl 0 rfl) ?_
  refine gf_0_1 C hw tC_46 kw_346 dX0_kept_1 ?_
  refine lv_bipush (v := 20) hx hb dX0_kept_4 (by decide) ?_
  refine q_min C hl.1 kw_957 (Nat.le_of_ble_eq_true rfl) (Nat.le_of_ble_eq_true rfl) (Nat.le_of_ble_eq_true rfl) ⟨Nat.zero_le _, Nat.zero_le _⟩ dX0_kept_6 ?_
  obtain ⟨rfl, rfl⟩ := ret_at h
  exact q_iret C hw dX0_kept_9
def f_X1_append (p1 : Int32) (p2 : Int32) (σ : Mem) : Option (Int32 × Mem) :=
  if (gI σ 13 2) < (10 : Int32) then
    (gd (ib (gI σ 13 2) 10) <|
    lt (sI σ 14 (gI σ 13 2).toNatClampNeg p1) fun σ_2 =>
    gd (ib (gI σ_2 13 2) 10) <|
    lt (sI σ_2 15 (gI σ_2 13 2).toNatClampNeg p2) fun σ_4 =>
    lt (sI σ_4 13 2 ((gI σ_4 13 2) + (1 : Int32))) fun σ_6 =>
    some (gI σ_6 13 2, σ_6))
  else
    some ((-4 : Int32), σ)
set_option maxHeartbeats 4000000 in
set_option maxRecDepth 100000 in
theorem m_X1_append (l : Launch) (E : EV) (p1 : Int32) (p2 : Int32) (σ : Mem) (rr : Int32) (τ : Mem) (h : f_X1_append p1 p2 σ = some (rr, τ)) : MI TC l E yX1_append cX1_append 3 (some .int) 0 0 [.ref (E.2.1 (13)), .int p1, .int p2] σ rr τ := by
  refine mt_start RX1 (by decide +kernel) rfl (Nat.le_of_ble_eq_true rfl) (fun p e s m args below meth c ls C hw hl => ?_)
  replace hl : lv_has ls 3 [(0, .ref (E.2.1 (13))), (1, .int p1), (2, .int p2)] := hl
  obtain ⟨hx, hb, hml, hown, hts, hK, hSt, hlk, hr⟩ := id C
  unfold f_X1_append at h
  refine lv_aload_n hx hb dX1_append_0 rfl (lv_at hl 0 rfl) ?_
  refine gf_1_2 C hw tC_13 kw_209 dX1_append_1 ?_
  refine lv_bipush (v := 10) hx hb dX1_append_4 (by decide) ?_
  refine lv_icmp_lt (tgt := 12) hx hb dX1_append_6 (by decide) (fun c_1 => ?_) (fun c_1 => ?_)
  · replace h := it_at h c_1
    refine lv_aload_n hx hb dX1_append_12 rfl (lv_at hl 0 rfl) ?_
    refine gf_1_0 C hw tC_13 kw_207 (c1 := 14) rfl dX1_append_13 ?_
    refine lv_aload_n hx hb dX1_append_16 rfl (lv_at hl 0 rfl) ?_
    refine gf_1_2 C hw tC_13 kw_209 dX1_append_17 ?_
    refine lv_iload_n hx hb dX1_append_20 rfl (lv_at hl 1 rfl) ?_
    obtain ⟨g_3, h⟩ := gd_at h
    obtain ⟨σ_2, eσ_2, h⟩ := lt_at h
    refine q_iast C hw tC_14 g_3 eσ_2 dX1_append_21 (fun H locs hw => ?_)
    refine lv_aload_n hx hb dX1_append_22 rfl (lv_at hl 0 rfl) ?_
    refine gf_1_1 C hw tC_13 kw_208 (c1 := 15) rfl dX1_append_23 ?_
    refine lv_aload_n hx hb dX1_append_26 rfl (lv_at hl 0 rfl) ?_
    refine gf_1_2 C hw tC_13 kw_209 dX1_append_27 ?_
    refine lv_iload_n hx hb dX1_append_30 rfl (lv_at hl 2 rfl) ?_
    obtain ⟨g_5, h⟩ := gd_at h
    obtain ⟨σ_4, eσ_4, h⟩ := lt_at h
    refine q_iast C hw tC_15 g_5 eσ_4 dX1_append_31 (fun H locs hw => ?_)
    refine lv_aload_n hx hb dX1_append_32 rfl (lv_at hl 0 rfl) ?_
    refine lv_dup hx hb dX1_append_33 rfl ?_
    refine gf_1_2 C hw tC_13 kw_209 dX1_append_34 ?_
    refine lv_iconst (v := 1) hx hb dX1_append_37 (by decide) ?_
    refine lv_iadd hx hb dX1_append_38 ?_
    obtain ⟨σ_6, eσ_6, h⟩ := lt_at h
    refine pf_1_2 C hw tC_13 kw_209 eσ_6 dX1_append_39 (fun H locs hw => ?_)
    refine lv_aload_n hx hb dX1_append_42 rfl (lv_at hl 0 rfl) ?_
    refine gf_1_2 C hw tC_13 kw_209 dX1_append_43 ?_
    obtain ⟨rfl, rfl⟩ := ret_at h
    exact q_iret C hw dX1_append_46
  · replace h := ie_at h c_1
    refine lv_bipush (v := (-4)) hx hb dX1_append_9 (by decide) ?_
    obtain ⟨rfl, rfl⟩ := ret_at h
    exact q_iret C hw dX1_append_11
def f_X3_holds_157 (o : Nat) (k5 : Int32 → Int32 → Int32 → Mem → Option (Int32 × Mem)) (x2 : Int32) (x3 : Int32) (x4 : Int32) (σ : Mem) : Option (Int32 × Mem) :=
  lt (x4 + (1 : Int32)) fun x4_18 =>
  k5 x2 x3 x4_18 σ
def f_X3_holds_155 (o : Nat) (k5 : Int32 → Int32 → Int32 → Mem → Option (Int32 × Mem)) (x2 : Int32) (x4 : Int32) (s0 : Int32) (s1 : Int32) (σ : Mem) : Option (Int32 × Mem) :=
  lt (s0 ||| s1) fun x3_20 =>
  f_X3_holds_157 o k5 x2 x3_20 x4 σ
def f_X3_holds_133 (o : Nat) (k5 : Int32 → Int32 → Int32 → Mem → Option (Int32 × Mem)) (x2 : Int32) (x3 : Int32) (x4 : Int32) (x5 : Int32) (s0 : Int32) (σ : Mem) : Option (Int32 × Mem) :=
  if s0 = (irm (x5 / (100 : Int32)) (3 : Int32)) then
    (f_X3_holds_155 o k5 x2 x4 (x3 <<< ((1 : Int32) &&& 31)) (1 : Int32) σ)
  else
    f_X3_holds_155 o k5 x2 x4 (x3 <<< ((1 : Int32) &&& 31)) (0 : Int32) σ
def f_X3_holds_101 (o : Nat) (k5 : Int32 → Int32 → Int32 → Mem → Option (Int32 × Mem)) (x2 : Int32) (x3 : Int32) (x4 : Int32) (x5 : Int32) (s0 : Int32) (σ : Mem) : Option (Int32 × Mem) :=
  lt (irm x5 (100 : Int32)) fun x8_15 =>
  if x8_15 ≤ s0 then
    (if s0 = x8_15 then
      (f_X3_holds_133 o k5 x2 x3 x4 x5 (1 : Int32) σ)
    else
      f_X3_holds_133 o k5 x2 x3 x4 x5 (2 : Int32) σ)
  else
    f_X3_holds_133 o k5 x2 x3 x4 x5 (0 : Int32) σ
def f_X3_holds_100 (o : Nat) (k5 : Int32 → Int32 → Int32 → Mem → Option (Int32 × Mem)) (x2 : Int32) (x3 : Int32) (x4 : Int32) (x5 : Int32) (σ : Mem) : Option (Int32 × Mem) :=
  f_X3_holds_101 o k5 x2 x3 x4 x5 (0 : Int32) σ
def f_X3_holds_5 (o : Nat) (k5 : Int32 → Int32 → Int32 → Mem → Option (Int32 × Mem)) (x2 : Int32) (x3 : Int32) (x4 : Int32) (σ : Mem) : Option (Int32 × Mem) :=
  if x2 ≤ x4 then
    (if (x3 &&& (1 : Int32)) = (1 : Int32) then
      (some ((1 : Int32), σ))
    else
      some ((0 : Int32), σ))
  else
    gd (ib x4 120) <|
    lt (gI σ (o + 4) x4.toNatClampNeg) fun x5_4 =>
    if x5_4 = (-1 : Int32) then
      (lt (x3 ^^^ (1 : Int32)) fun x3_14 =>
      f_X3_holds_157 o k5 x2 x3_14 x4 σ)
    else
      if x5_4 = (-2 : Int32) then
        (lt (((x3.toUInt32 >>> ((1 : Int32).toUInt32 &&& Int32.toUInt32 31)).toInt32) &&& (x3 ||| (-2 : Int32))) fun x3_13 =>
        f_X3_holds_157 o k5 x2 x3_13 x4 σ)
      else
        if x5_4 = (-3 : Int32) then
          (lt (((x3.toUInt32 >>> ((1 : Int32).toUInt32 &&& Int32.toUInt32 31)).toInt32) ||| (x3 &&& (1 : Int32))) fun x3_12 =>
          f_X3_holds_157 o k5 x2 x3_12 x4 σ)
        else
          lt (x5_4 / (300 : Int32)) fun x6_8 =>
          if x6_8 < 0 then
            (f_X3_holds_100 o k5 x2 x3 x4 x5_4 σ)
          else
            if (6 : Int32) ≤ x6_8 then
              (f_X3_holds_100 o k5 x2 x3 x4 x5_4 σ)
            else
              gd (ib x6_8 6) <|
              f_X3_holds_101 o k5 x2 x3 x4 x5_4 (gI σ (o + 5) x6_8.toNatClampNeg) σ
def f_X3_holds (o : Nat) (p1 : Int32) (p2 : Int32) (σ : Mem) : Option (Int32 × Mem) :=
  fx4 (f_X3_holds_5 o) FU p2 (0 : Int32) p1 σ
set_option maxHeartbeats 4000000 in
set_option maxRecDepth 100000 in
theorem w_X3_holds_157 {p : Program} {l : Launch} {e : Env} {s : State} {m : MethodId} {args : Array Value} {below : List Frame} {meth : Method} {c : Code} {E : EV} {rr : Int32} {τ : Mem} (C : Cx E p s m args meth c cX3_holds 10 (some .boolean) RX3) (o : Nat) (ho : MO o) (k5 : Int32 → Int32 → Int32 → Mem → Option (Int32 × Mem)) (hk5 : ∀ (x2 : Int32) (x3 : Int32) (x4 : Int32) (σ : Mem) (H : Heap) (locs : List Loc) (ls : Array Slot) (hw : Wd TC E σ s H locs) (hl : lv_has ls 10 [(0, .ref (E.2.1 o)), (2, .int x2), (3, .int x3), (4, .int x4)]) (h : k5 x2 x3 x4 σ = some (rr, τ)), W p l e { frames := 0, cells := 0, slots := 0, locals := 0 } s m args below meth c H locs 0 0 (MQ below (QI TC E rr τ) args s 0 0 E.2.2.1) (F0 m 5 ls [])) : ∀ (x2 : Int32) (x3 : Int32) (x4 : Int32) (σ : Mem) (H : Heap) (locs : List Loc) (ls : Array Slot) (hw : Wd TC E σ s H locs) (hl : lv_has ls 10 [(0, .ref (E.2.1 o)), (2, .int x2), (3, .int x3), (4, .int x4)]) (h : f_X3_holds_157 o k5 x2 x3 x4 σ = some (rr, τ)), W p l e { frames := 0, cells := 0, slots := 0, locals := 0 } s m args below meth c H locs 0 0 (MQ below (QI TC E rr τ) args s 0 0 E.2.2.1) (F0 m 157 ls []) := by
  obtain ⟨hx, hb, hml, hown, hts, hK, hSt, hlk, hr⟩ := id C
  intro x2 x3 x4 σ H locs ls hw hl h
  unfold f_X3_holds_157 at h
  obtain ⟨x4_18, ex4_18, h⟩ := lt_at h
  refine lv_iinc (v := x4_18) (lv' := [(4, .int x4_18), (0, .ref (E.2.1 o)), (2, .int x2), (3, .int x3)]) hx hb dX3_holds_157 hl (k := 3) rfl (by rw [ex4_18]; rfl) (by decide) rfl (fun ls hl => ?_)
  refine lv_goto (tgt := 5) hx hb dX3_holds_160 (by decide) ?_
  exact hk5 _ _ _ _ _ _ _ hw (lv_sub hl [1, 2, 3, 0] rfl) h
set_option maxHeartbeats 4000000 in
set_option maxRecDepth 100000 in
theorem w_X3_holds_155 {p : Program} {l : Launch} {e : Env} {s : State} {m : MethodId} {args : Array Value} {below : List Frame} {meth : Method} {c : Code} {E : EV} {rr : Int32} {τ : Mem} (C : Cx E p s m args meth c cX3_holds 10 (some .boolean) RX3) (o : Nat) (ho : MO o) (k5 : Int32 → Int32 → Int32 → Mem → Option (Int32 × Mem)) (hk5 : ∀ (x2 : Int32) (x3 : Int32) (x4 : Int32) (σ : Mem) (H : Heap) (locs : List Loc) (ls : Array Slot) (hw : Wd TC E σ s H locs) (hl : lv_has ls 10 [(0, .ref (E.2.1 o)), (2, .int x2), (3, .int x3), (4, .int x4)]) (h : k5 x2 x3 x4 σ = some (rr, τ)), W p l e { frames := 0, cells := 0, slots := 0, locals := 0 } s m args below meth c H locs 0 0 (MQ below (QI TC E rr τ) args s 0 0 E.2.2.1) (F0 m 5 ls [])) : ∀ (x2 : Int32) (x4 : Int32) (s0 : Int32) (s1 : Int32) (σ : Mem) (H : Heap) (locs : List Loc) (ls : Array Slot) (hw : Wd TC E σ s H locs) (hl : lv_has ls 10 [(0, .ref (E.2.1 o)), (2, .int x2), (4, .int x4)]) (h : f_X3_holds_155 o k5 x2 x4 s0 s1 σ = some (rr, τ)), W p l e { frames := 0, cells := 0, slots := 0, locals := 0 } s m args below meth c H locs 0 0 (MQ below (QI TC E rr τ) args s 0 0 E.2.2.1) (F0 m 155 ls [.int s1, .int s0]) := by
  obtain ⟨hx, hb, hml, hown, hts, hK, hSt, hlk, hr⟩ := id C
  intro x2 x4 s0 s1 σ H locs ls hw hl h
  unfold f_X3_holds_155 at h
  refine lv_ior hx hb dX3_holds_155 ?_
  obtain ⟨x3_20, ex3_20, h⟩ := lt_at h
  refine q_top ex3_20 ?_
  refine lv_istore_n (lv' := [(3, .int x3_20), (0, .ref (E.2.1 o)), (2, .int x2), (4, .int x4)]) hx hb dX3_holds_156 rfl hl (by decide) rfl (fun ls hl => ?_)
  exact w_X3_holds_157 C o ho _ hk5 _ _ _ _ _ _ _ hw (lv_sub hl [1, 2, 0, 3] rfl) h
set_option maxHeartbeats 4000000 in
set_option maxRecDepth 100000 in
theorem w_X3_holds_133 {p : Program} {l : Launch} {e : Env} {s : State} {m : MethodId} {args : Array Value} {below : List Frame} {meth : Method} {c : Code} {E : EV} {rr : Int32} {τ : Mem} (C : Cx E p s m args meth c cX3_holds 10 (some .boolean) RX3) (o : Nat) (ho : MO o) (k5 : Int32 → Int32 → Int32 → Mem → Option (Int32 × Mem)) (hk5 : ∀ (x2 : Int32) (x3 : Int32) (x4 : Int32) (σ : Mem) (H : Heap) (locs : List Loc) (ls : Array Slot) (hw : Wd TC E σ s H locs) (hl : lv_has ls 10 [(0, .ref (E.2.1 o)), (2, .int x2), (3, .int x3), (4, .int x4)]) (h : k5 x2 x3 x4 σ = some (rr, τ)), W p l e { frames := 0, cells := 0, slots := 0, locals := 0 } s m args below meth c H locs 0 0 (MQ below (QI TC E rr τ) args s 0 0 E.2.2.1) (F0 m 5 ls [])) : ∀ (x2 : Int32) (x3 : Int32) (x4 : Int32) (x5 : Int32) (s0 : Int32) (σ : Mem) (H : Heap) (locs : List Loc) (ls : Array Slot) (hw : Wd TC E σ s H locs) (hl : lv_has ls 10 [(0, .ref (E.2.1 o)), (2, .int x2), (3, .int x3), (4, .int x4), (5, .int x5)]) (h : f_X3_holds_133 o k5 x2 x3 x4 x5 s0 σ = some (rr, τ)), W p l e { frames := 0, cells := 0, slots := 0, locals := 0 } s m args below meth c H locs 0 0 (MQ below (QI TC E rr τ) args s 0 0 E.2.2.1) (F0 m 133 ls [.int s0]) := by
  obtain ⟨hx, hb, hml, hown, hts, hK, hSt, hlk, hr⟩ := id C
  intro x2 x3 x4 x5 s0 σ H locs ls hw hl h
  unfold f_X3_holds_133 at h
  refine lv_istore (lv' := [(9, .int s0), (0, .ref (E.2.1 o)), (2, .int x2), (3, .int x3), (4, .int x4), (5, .int x5)]) hx hb dX3_holds_133 hl (by decide) rfl (fun ls hl => ?_)
  refine lv_iload_n hx hb dX3_holds_135 rfl (lv_at hl 3 rfl) ?_
  refine lv_iconst (v := 1) hx hb dX3_holds_136 (by decide) ?_
  refine lv_ishl hx hb dX3_holds_137 ?_
  refine lv_iload hx hb dX3_holds_138 (lv_at hl 0 rfl) ?_
  refine lv_iload hx hb dX3_holds_140 (lv_at hl 5 rfl) ?_
  refine lv_bipush (v := 100) hx hb dX3_holds_142 (by decide) ?_
  refine lv_idiv hx hb dX3_holds_144 (by decide) ?_
  refine lv_iconst (v := 3) hx hb dX3_holds_145 (by decide) ?_
  refine q_irem hx hb dX3_holds_146 (by decide) ?_
  refine lv_icmp_ne (tgt := 154) hx hb dX3_holds_147 (by decide) (fun c_19 => ?_) (fun c_19 => ?_)
  · replace h := ie_at h c_19
    refine lv_iconst (v := 0) hx hb dX3_holds_154 (by decide) ?_
    exact w_X3_holds_155 C o ho _ hk5 _ _ _ _ _ _ _ _ hw (lv_sub hl [1, 2, 4] rfl) h
  · replace h := it_at h c_19
    refine lv_iconst (v := 1) hx hb dX3_holds_150 (by decide) ?_
    refine lv_goto (tgt := 155) hx hb dX3_holds_151 (by decide) ?_
    exact w_X3_holds_155 C o ho _ hk5 _ _ _ _ _ _ _ _ hw (lv_sub hl [1, 2, 4] rfl) h
set_option maxHeartbeats 4000000 in
set_option maxRecDepth 100000 in
theorem w_X3_holds_101 {p : Program} {l : Launch} {e : Env} {s : State} {m : MethodId} {args : Array Value} {below : List Frame} {meth : Method} {c : Code} {E : EV} {rr : Int32} {τ : Mem} (C : Cx E p s m args meth c cX3_holds 10 (some .boolean) RX3) (o : Nat) (ho : MO o) (k5 : Int32 → Int32 → Int32 → Mem → Option (Int32 × Mem)) (hk5 : ∀ (x2 : Int32) (x3 : Int32) (x4 : Int32) (σ : Mem) (H : Heap) (locs : List Loc) (ls : Array Slot) (hw : Wd TC E σ s H locs) (hl : lv_has ls 10 [(0, .ref (E.2.1 o)), (2, .int x2), (3, .int x3), (4, .int x4)]) (h : k5 x2 x3 x4 σ = some (rr, τ)), W p l e { frames := 0, cells := 0, slots := 0, locals := 0 } s m args below meth c H locs 0 0 (MQ below (QI TC E rr τ) args s 0 0 E.2.2.1) (F0 m 5 ls [])) : ∀ (x2 : Int32) (x3 : Int32) (x4 : Int32) (x5 : Int32) (s0 : Int32) (σ : Mem) (H : Heap) (locs : List Loc) (ls : Array Slot) (hw : Wd TC E σ s H locs) (hl : lv_has ls 10 [(0, .ref (E.2.1 o)), (2, .int x2), (3, .int x3), (4, .int x4), (5, .int x5)]) (h : f_X3_holds_101 o k5 x2 x3 x4 x5 s0 σ = some (rr, τ)), W p l e { frames := 0, cells := 0, slots := 0, locals := 0 } s m args below meth c H locs 0 0 (MQ below (QI TC E rr τ) args s 0 0 E.2.2.1) (F0 m 101 ls [.int s0]) := by
  obtain ⟨hx, hb, hml, hown, hts, hK, hSt, hlk, hr⟩ := id C
  intro x2 x3 x4 x5 s0 σ H locs ls hw hl h
  unfold f_X3_holds_101 at h
  refine lv_istore (lv' := [(7, .int s0), (0, .ref (E.2.1 o)), (2, .int x2), (3, .int x3), (4, .int x4), (5, .int x5)]) hx hb dX3_holds_101 hl (by decide) rfl (fun ls hl => ?_)
  refine lv_iload hx hb dX3_holds_103 (lv_at hl 5 rfl) ?_
  refine lv_bipush (v := 100) hx hb dX3_holds_105 (by decide) ?_
  refine q_irem hx hb dX3_holds_107 (by decide) ?_
  obtain ⟨x8_15, ex8_15, h⟩ := lt_at h
  refine q_top ex8_15 ?_
  refine lv_istore (lv' := [(8, .int x8_15), (7, .int s0), (0, .ref (E.2.1 o)), (2, .int x2), (3, .int x3), (4, .int x4), (5, .int x5)]) hx hb dX3_holds_108 hl (by decide) rfl (fun ls hl => ?_)
  refine lv_iload hx hb dX3_holds_110 (lv_at hl 1 rfl) ?_
  refine lv_iload hx hb dX3_holds_112 (lv_at hl 0 rfl) ?_
  refine lv_icmp_ge (tgt := 121) hx hb dX3_holds_114 (by decide) (fun c_16 => ?_) (fun c_16 => ?_)
  · replace h := it_at h c_16
    refine lv_iload hx hb dX3_holds_121 (lv_at hl 1 rfl) ?_
    refine lv_iload hx hb dX3_holds_123 (lv_at hl 0 rfl) ?_
    refine lv_icmp_ne (tgt := 132) hx hb dX3_holds_125 (by decide) (fun c_17 => ?_) (fun c_17 => ?_)
    · replace h := ie_at h c_17
      refine lv_iconst (v := 2) hx hb dX3_holds_132 (by decide) ?_
      exact w_X3_holds_133 C o ho _ hk5 _ _ _ _ _ _ _ _ _ hw (lv_sub hl [2, 3, 4, 5, 6] rfl) h
    · replace h := it_at h c_17
      refine lv_iconst (v := 1) hx hb dX3_holds_128 (by decide) ?_
      refine lv_goto (tgt := 133) hx hb dX3_holds_129 (by decide) ?_
      exact w_X3_holds_133 C o ho _ hk5 _ _ _ _ _ _ _ _ _ hw (lv_sub hl [2, 3, 4, 5, 6] rfl) h
  · replace h := ie_at h c_16
    refine lv_iconst (v := 0) hx hb dX3_holds_117 (by decide) ?_
    refine lv_goto (tgt := 133) hx hb dX3_holds_118 (by decide) ?_
    exact w_X3_holds_133 C o ho _ hk5 _ _ _ _ _ _ _ _ _ hw (lv_sub hl [2, 3, 4, 5, 6] rfl) h
set_option maxHeartbeats 4000000 in
set_option maxRecDepth 100000 in
theorem w_X3_holds_100 {p : Program} {l : Launch} {e : Env} {s : State} {m : MethodId} {args : Array Value} {below : List Frame} {meth : Method} {c : Code} {E : EV} {rr : Int32} {τ : Mem} (C : Cx E p s m args meth c cX3_holds 10 (some .boolean) RX3) (o : Nat) (ho : MO o) (k5 : Int32 → Int32 → Int32 → Mem → Option (Int32 × Mem)) (hk5 : ∀ (x2 : Int32) (x3 : Int32) (x4 : Int32) (σ : Mem) (H : Heap) (locs : List Loc) (ls : Array Slot) (hw : Wd TC E σ s H locs) (hl : lv_has ls 10 [(0, .ref (E.2.1 o)), (2, .int x2), (3, .int x3), (4, .int x4)]) (h : k5 x2 x3 x4 σ = some (rr, τ)), W p l e { frames := 0, cells := 0, slots := 0, locals := 0 } s m args below meth c H locs 0 0 (MQ below (QI TC E rr τ) args s 0 0 E.2.2.1) (F0 m 5 ls [])) : ∀ (x2 : Int32) (x3 : Int32) (x4 : Int32) (x5 : Int32) (σ : Mem) (H : Heap) (locs : List Loc) (ls : Array Slot) (hw : Wd TC E σ s H locs) (hl : lv_has ls 10 [(0, .ref (E.2.1 o)), (2, .int x2), (3, .int x3), (4, .int x4), (5, .int x5)]) (h : f_X3_holds_100 o k5 x2 x3 x4 x5 σ = some (rr, τ)), W p l e { frames := 0, cells := 0, slots := 0, locals := 0 } s m args below meth c H locs 0 0 (MQ below (QI TC E rr τ) args s 0 0 E.2.2.1) (F0 m 100 ls []) := by
  obtain ⟨hx, hb, hml, hown, hts, hK, hSt, hlk, hr⟩ := id C
  intro x2 x3 x4 x5 σ H locs ls hw hl h
  unfold f_X3_holds_100 at h
  refine lv_iconst (v := 0) hx hb dX3_holds_100 (by decide) ?_
  exact w_X3_holds_101 C o ho _ hk5 _ _ _ _ _ _ _ _ _ hw (lv_sub hl [0, 1, 2, 3, 4] rfl) h
set_option maxHeartbeats 4000000 in
set_option maxRecDepth 100000 in
theorem w_X3_holds_5 {p : Program} {l : Launch} {e : Env} {s : State} {m : MethodId} {args : Array Value} {below : List Frame} {meth : Method} {c : Code} {E : EV} {rr : Int32} {τ : Mem} (C : Cx E p s m args meth c cX3_holds 10 (some .boolean) RX3) (o : Nat) (ho : MO o) : ∀ (n : Nat) (x2 : Int32) (x3 : Int32) (x4 : Int32) (σ : Mem) (H : Heap) (locs : List Loc) (ls : Array Slot) (hw : Wd TC E σ s H locs) (hl : lv_has ls 10 [(0, .ref (E.2.1 o)), (2, .int x2), (3, .int x3), (4, .int x4)]) (h : fx4 (f_X3_holds_5 o) n x2 x3 x4 σ = some (rr, τ)), W p l e { frames := 0, cells := 0, slots := 0, locals := 0 } s m args below meth c H locs 0 0 (MQ below (QI TC E rr τ) args s 0 0 E.2.2.1) (F0 m 5 ls []) := by
  obtain ⟨hx, hb, hml, hown, hts, hK, hSt, hlk, hr⟩ := id C
  intro n
  induction n with
  | zero =>
    intro x2 x3 x4 σ H locs ls hw hl h
    have h : none = some (rr, τ) := h
    cases h
  | succ n hk5 =>
    intro x2 x3 x4 σ H locs ls hw hl h
    replace h : f_X3_holds_5 o (fx4 (f_X3_holds_5 o) n) x2 x3 x4 σ = some (rr, τ) := h
    unfold f_X3_holds_5 at h
    refine lv_iload hx hb dX3_holds_5 (lv_at hl 3 rfl) ?_
    refine lv_iload_n hx hb dX3_holds_7 rfl (lv_at hl 1 rfl) ?_
    refine lv_icmp_ge (tgt := 163) hx hb dX3_holds_8 (by decide) (fun c_1 => ?_) (fun c_1 => ?_)
    · replace h := it_at h c_1
      refine lv_iload_n hx hb dX3_holds_163 rfl (lv_at hl 2 rfl) ?_
      refine lv_iconst (v := 1) hx hb dX3_holds_164 (by decide) ?_
      refine lv_iand hx hb dX3_holds_165 ?_
      refine lv_iconst (v := 1) hx hb dX3_holds_166 (by decide) ?_
      refine lv_icmp_ne (tgt := 174) hx hb dX3_holds_167 (by decide) (fun c_2 => ?_) (fun c_2 => ?_)
      · replace h := ie_at h c_2
        refine lv_iconst (v := 0) hx hb dX3_holds_174 (by decide) ?_
        obtain ⟨rfl, rfl⟩ := ret_at h
        exact q_zret C (by decide) hw dX3_holds_175
      · replace h := it_at h c_2
        refine lv_iconst (v := 1) hx hb dX3_holds_170 (by decide) ?_
        refine lv_goto (tgt := 175) hx hb dX3_holds_171 (by decide) ?_
        obtain ⟨rfl, rfl⟩ := ret_at h
        exact q_zret C (by decide) hw dX3_holds_175
    · replace h := ie_at h c_1
      refine lv_aload_n hx hb dX3_holds_11 rfl (lv_at hl 0 rfl) ?_
      refine gf_3_3 C hw (mo_T ho).1 kw_370 (c1 := (o + 4)) rfl dX3_holds_12 ?_
      refine lv_iload hx hb dX3_holds_15 (lv_at hl 3 rfl) ?_
      obtain ⟨g_3, h⟩ := gd_at h
      refine q_iald C hw (mo_T ho).2.2.2.2.1 g_3 dX3_holds_17 ?_
      obtain ⟨x5_4, ex5_4, h⟩ := lt_at h
      refine q_top ex5_4 ?_
      refine lv_istore (lv' := [(5, .int x5_4), (0, .ref (E.2.1 o)), (2, .int x2), (3, .int x3), (4, .int x4)]) hx hb dX3_holds_18 hl (by decide) rfl (fun ls hl => ?_)
      refine lv_iload hx hb dX3_holds_20 (lv_at hl 0 rfl) ?_
      refine lv_iconst (v := (-1)) hx hb dX3_holds_22 (by decide) ?_
      refine lv_icmp_ne (tgt := 33) hx hb dX3_holds_23 (by decide) (fun c_5 => ?_) (fun c_5 => ?_)
      · replace h := ie_at h c_5
        refine lv_iload hx hb dX3_holds_33 (lv_at hl 0 rfl) ?_
        refine lv_bipush (v := (-2)) hx hb dX3_holds_35 (by decide) ?_
        refine lv_icmp_ne (tgt := 52) hx hb dX3_holds_37 (by decide) (fun c_6 => ?_) (fun c_6 => ?_)
        · replace h := ie_at h c_6
          refine lv_iload hx hb dX3_holds_52 (lv_at hl 0 rfl) ?_
          refine lv_bipush (v := (-3)) hx hb dX3_holds_54 (by decide) ?_
          refine lv_icmp_ne (tgt := 70) hx hb dX3_holds_56 (by decide) (fun c_7 => ?_) (fun c_7 => ?_)
          · replace h := ie_at h c_7
            refine lv_iload hx hb dX3_holds_70 (lv_at hl 0 rfl) ?_
            refine lv_sipush (v := 300) hx hb dX3_holds_72 (by decide) ?_
            refine lv_idiv hx hb dX3_holds_75 (by decide) ?_
            obtain ⟨x6_8, ex6_8, h⟩ := lt_at h
            refine q_top ex6_8 ?_
            refine lv_istore (lv' := [(6, .int x6_8), (5, .int x5_4), (0, .ref (E.2.1 o)), (2, .int x2), (3, .int x3), (4, .int x4)]) hx hb dX3_holds_76 hl (by decide) rfl (fun ls hl => ?_)
            refine lv_iload hx hb dX3_holds_78 (lv_at hl 0 rfl) ?_
            refine lv_if_lt (tgt := 100) hx hb dX3_holds_80 (by decide) (fun c_9 => ?_) (fun c_9 => ?_)
            · replace h := it_at h c_9
              exact w_X3_holds_100 C o ho _ hk5 _ _ _ _ _ _ _ _ hw (lv_sub hl [2, 3, 4, 5, 1] rfl) h
            · replace h := ie_at h c_9
              refine lv_iload hx hb dX3_holds_83 (lv_at hl 0 rfl) ?_
              refine lv_bipush (v := 6) hx hb dX3_holds_85 (by decide) ?_
              refine lv_icmp_ge (tgt := 100) hx hb dX3_holds_87 (by decide) (fun c_10 => ?_) (fun c_10 => ?_)
              · replace h := it_at h c_10
                exact w_X3_holds_100 C o ho _ hk5 _ _ _ _ _ _ _ _ hw (lv_sub hl [2, 3, 4, 5, 1] rfl) h
              · replace h := ie_at h c_10
                refine lv_aload_n hx hb dX3_holds_90 rfl (lv_at hl 2 rfl) ?_
                refine gf_3_4 C hw (mo_T ho).1 kw_371 (c1 := (o + 5)) rfl dX3_holds_91 ?_
                refine lv_iload hx hb dX3_holds_94 (lv_at hl 0 rfl) ?_
                obtain ⟨g_11, h⟩ := gd_at h
                refine q_iald C hw (mo_T ho).2.2.2.2.2.1 g_11 dX3_holds_96 ?_
                refine lv_goto (tgt := 101) hx hb dX3_holds_97 (by decide) ?_
                exact w_X3_holds_101 C o ho _ hk5 _ _ _ _ _ _ _ _ _ hw (lv_sub hl [2, 3, 4, 5, 1] rfl) h
          · replace h := it_at h c_7
            refine lv_iload_n hx hb dX3_holds_59 rfl (lv_at hl 3 rfl) ?_
            refine lv_iconst (v := 1) hx hb dX3_holds_60 (by decide) ?_
            refine lv_iushr hx hb dX3_holds_61 rfl ?_
            refine lv_iload_n hx hb dX3_holds_62 rfl (lv_at hl 3 rfl) ?_
            refine lv_iconst (v := 1) hx hb dX3_holds_63 (by decide) ?_
            refine lv_iand hx hb dX3_holds_64 ?_
            refine lv_ior hx hb dX3_holds_65 ?_
            obtain ⟨x3_12, ex3_12, h⟩ := lt_at h
            refine q_top ex3_12 ?_
            refine lv_istore_n (lv' := [(3, .int x3_12), (5, .int x5_4), (0, .ref (E.2.1 o)), (2, .int x2), (4, .int x4)]) hx hb dX3_holds_66 rfl hl (by decide) rfl (fun ls hl => ?_)
            refine lv_goto (tgt := 157) hx hb dX3_holds_67 (by decide) ?_
            exact w_X3_holds_157 C o ho _ hk5 _ _ _ _ _ _ _ hw (lv_sub hl [2, 3, 0, 4] rfl) h
        · replace h := it_at h c_6
          refine lv_iload_n hx hb dX3_holds_40 rfl (lv_at hl 3 rfl) ?_
          refine lv_iconst (v := 1) hx hb dX3_holds_41 (by decide) ?_
          refine lv_iushr hx hb dX3_holds_42 rfl ?_
          refine lv_iload_n hx hb dX3_holds_43 rfl (lv_at hl 3 rfl) ?_
          refine lv_bipush (v := (-2)) hx hb dX3_holds_44 (by decide) ?_
          refine lv_ior hx hb dX3_holds_46 ?_
          refine lv_iand hx hb dX3_holds_47 ?_
          obtain ⟨x3_13, ex3_13, h⟩ := lt_at h
          refine q_top ex3_13 ?_
          refine lv_istore_n (lv' := [(3, .int x3_13), (5, .int x5_4), (0, .ref (E.2.1 o)), (2, .int x2), (4, .int x4)]) hx hb dX3_holds_48 rfl hl (by decide) rfl (fun ls hl => ?_)
          refine lv_goto (tgt := 157) hx hb dX3_holds_49 (by decide) ?_
          exact w_X3_holds_157 C o ho _ hk5 _ _ _ _ _ _ _ hw (lv_sub hl [2, 3, 0, 4] rfl) h
      · replace h := it_at h c_5
        refine lv_iload_n hx hb dX3_holds_26 rfl (lv_at hl 3 rfl) ?_
        refine lv_iconst (v := 1) hx hb dX3_holds_27 (by decide) ?_
        refine lv_ixor hx hb dX3_holds_28 ?_
        obtain ⟨x3_14, ex3_14, h⟩ := lt_at h
        refine q_top ex3_14 ?_
        refine lv_istore_n (lv' := [(3, .int x3_14), (5, .int x5_4), (0, .ref (E.2.1 o)), (2, .int x2), (4, .int x4)]) hx hb dX3_holds_29 rfl hl (by decide) rfl (fun ls hl => ?_)
        refine lv_goto (tgt := 157) hx hb dX3_holds_30 (by decide) ?_
        exact w_X3_holds_157 C o ho _ hk5 _ _ _ _ _ _ _ hw (lv_sub hl [2, 3, 0, 4] rfl) h
set_option maxHeartbeats 4000000 in
set_option maxRecDepth 100000 in
theorem m_X3_holds (l : Launch) (E : EV) (o : Nat) (ho : MO o) (p1 : Int32) (p2 : Int32) (σ : Mem) (rr : Int32) (τ : Mem) (h : f_X3_holds o p1 p2 σ = some (rr, τ)) : MI TC l E yX3_holds cX3_holds 10 (some .boolean) 0 0 [.ref (E.2.1 o), .int p1, .int p2] σ rr τ := by
  refine mt_start RX3 (by decide +kernel) rfl (Nat.le_of_ble_eq_true rfl) (fun p e s m args below meth c ls C hw hl => ?_)
  replace hl : lv_has ls 10 [(0, .ref (E.2.1 o)), (1, .int p1), (2, .int p2)] := hl
  obtain ⟨hx, hb, hml, hown, hts, hK, hSt, hlk, hr⟩ := id C
  unfold f_X3_holds at h
  refine lv_iconst (v := 0) hx hb dX3_holds_0 (by decide) ?_
  refine lv_istore_n (lv' := [(3, .int (0 : Int32)), (0, .ref (E.2.1 o)), (1, .int p1), (2, .int p2)]) hx hb dX3_holds_1 rfl hl (by decide) rfl (fun ls hl => ?_)
  refine lv_iload_n hx hb dX3_holds_2 rfl (lv_at hl 2 rfl) ?_
  refine lv_istore (lv' := [(4, .int p1), (3, .int (0 : Int32)), (0, .ref (E.2.1 o)), (1, .int p1), (2, .int p2)]) hx hb dX3_holds_3 hl (by decide) rfl (fun ls hl => ?_)
  exact w_X3_holds_5 C o ho _ _ _ _ _ _ _ _ hw (lv_sub hl [2, 4, 1, 0] rfl) h
def f_X3_together_60 (o : Nat) (k4 : Int32 → Int32 → Int32 → Mem → Option (Int32 × Mem)) (x1 : Int32) (x2 : Int32) (x3 : Int32) (σ : Mem) : Option (Int32 × Mem) :=
  lt (x3 + (1 : Int32)) fun x3_6 =>
  k4 x1 x2 x3_6 σ
def f_X3_together_39 (o : Nat) (k4 : Int32 → Int32 → Int32 → Mem → Option (Int32 × Mem)) (x1 : Int32) (x2 : Int32) (x3 : Int32) (s1 : Int32) (σ : Mem) : Option (Int32 × Mem) :=
  gd (ib x3 10) <|
  bd (f_X3_holds o s1 (gI σ (o + 3) x3.toNatClampNeg) σ) fun r_8 σ_9 =>
  if r_8 = 0 then
    (f_X3_together_60 o k4 x1 x2 x3 σ_9)
  else
    gd (ib x3 10) <|
    lt (x2 + (gI σ_9 (o + 2) x3.toNatClampNeg)) fun x2_13 =>
    f_X3_together_60 o k4 x1 x2_13 x3 σ_9
def f_X3_together_4 (o : Nat) (k4 : Int32 → Int32 → Int32 → Mem → Option (Int32 × Mem)) (x1 : Int32) (x2 : Int32) (x3 : Int32) (σ : Mem) : Option (Int32 × Mem) :=
  if (gI σ o 6) ≤ x3 then
    (some (x2, σ))
  else
    gd (ib x3 10) <|
    if (gI σ (o + 1) x3.toNatClampNeg) = x1 then
      (if x3 = 0 then
        (f_X3_together_39 o k4 x1 x2 x3 (0 : Int32) σ)
      else
        gd (ib (x3 - (1 : Int32)) 10) <|
        f_X3_together_39 o k4 x1 x2 x3 (gI σ (o + 3) (x3 - (1 : Int32)).toNatClampNeg) σ)
    else
      f_X3_together_60 o k4 x1 x2 x3 σ
def f_X3_together (o : Nat) (p1 : Int32) (σ : Mem) : Option (Int32 × Mem) :=
  fx4 (f_X3_together_4 o) FU p1 (0 : Int32) (0 : Int32) σ
set_option maxHeartbeats 4000000 in
set_option maxRecDepth 100000 in
theorem w_X3_together_60 {p : Program} {l : Launch} {e : Env} {s : State} {m : MethodId} {args : Array Value} {below : List Frame} {meth : Method} {c : Code} {E : EV} {rr : Int32} {τ : Mem} (C : Cx E p s m args meth c cX3_together 4 (some .int) RX3) (o : Nat) (ho : MO o) (k4 : Int32 → Int32 → Int32 → Mem → Option (Int32 × Mem)) (hk4 : ∀ (x1 : Int32) (x2 : Int32) (x3 : Int32) (σ : Mem) (H : Heap) (locs : List Loc) (ls : Array Slot) (hw : Wd TC E σ s H locs) (hl : lv_has ls 4 [(0, .ref (E.2.1 o)), (1, .int x1), (2, .int x2), (3, .int x3)]) (h : k4 x1 x2 x3 σ = some (rr, τ)), W p l e { frames := 1, cells := 0, slots := 0, locals := 29 } s m args below meth c H locs 0 0 (MQ below (QI TC E rr τ) args s 0 0 E.2.2.1) (F0 m 4 ls [])) : ∀ (x1 : Int32) (x2 : Int32) (x3 : Int32) (σ : Mem) (H : Heap) (locs : List Loc) (ls : Array Slot) (hw : Wd TC E σ s H locs) (hl : lv_has ls 4 [(0, .ref (E.2.1 o)), (1, .int x1), (2, .int x2), (3, .int x3)]) (h : f_X3_together_60 o k4 x1 x2 x3 σ = some (rr, τ)), W p l e { frames := 1, cells := 0, slots := 0, locals := 29 } s m args below meth c H locs 0 0 (MQ below (QI TC E rr τ) args s 0 0 E.2.2.1) (F0 m 60 ls []) := by
  obtain ⟨hx, hb, hml, hown, hts, hK, hSt, hlk, hr⟩ := id C
  intro x1 x2 x3 σ H locs ls hw hl h
  unfold f_X3_together_60 at h
  obtain ⟨x3_6, ex3_6, h⟩ := lt_at h
  refine lv_iinc (v := x3_6) (lv' := [(3, .int x3_6), (0, .ref (E.2.1 o)), (1, .int x1), (2, .int x2)]) hx hb dX3_together_60 hl (k := 3) rfl (by rw [ex3_6]; rfl) (by decide) rfl (fun ls hl => ?_)
  refine lv_goto (tgt := 4) hx hb dX3_together_63 (by decide) ?_
  exact hk4 _ _ _ _ _ _ _ hw (lv_sub hl [1, 2, 3, 0] rfl) h
set_option maxHeartbeats 4000000 in
set_option maxRecDepth 100000 in
theorem w_X3_together_39 {p : Program} {l : Launch} {e : Env} {s : State} {m : MethodId} {args : Array Value} {below : List Frame} {meth : Method} {c : Code} {E : EV} {rr : Int32} {τ : Mem} (C : Cx E p s m args meth c cX3_together 4 (some .int) RX3) (o : Nat) (ho : MO o) (k4 : Int32 → Int32 → Int32 → Mem → Option (Int32 × Mem)) (hk4 : ∀ (x1 : Int32) (x2 : Int32) (x3 : Int32) (σ : Mem) (H : Heap) (locs : List Loc) (ls : Array Slot) (hw : Wd TC E σ s H locs) (hl : lv_has ls 4 [(0, .ref (E.2.1 o)), (1, .int x1), (2, .int x2), (3, .int x3)]) (h : k4 x1 x2 x3 σ = some (rr, τ)), W p l e { frames := 1, cells := 0, slots := 0, locals := 29 } s m args below meth c H locs 0 0 (MQ below (QI TC E rr τ) args s 0 0 E.2.2.1) (F0 m 4 ls [])) : ∀ (x1 : Int32) (x2 : Int32) (x3 : Int32) (s1 : Int32) (σ : Mem) (H : Heap) (locs : List Loc) (ls : Array Slot) (hw : Wd TC E σ s H locs) (hl : lv_has ls 4 [(0, .ref (E.2.1 o)), (1, .int x1), (2, .int x2), (3, .int x3)]) (h : f_X3_together_39 o k4 x1 x2 x3 s1 σ = some (rr, τ)), W p l e { frames := 1, cells := 0, slots := 0, locals := 29 } s m args below meth c H locs 0 0 (MQ below (QI TC E rr τ) args s 0 0 E.2.2.1) (F0 m 39 ls [.int s1, .ref (E.2.1 o)]) := by
  obtain ⟨hx, hb, hml, hown, hts, hK, hSt, hlk, hr⟩ := id C
  intro x1 x2 x3 s1 σ H locs ls hw hl h
  unfold f_X3_together_39 at h
  refine lv_aload_n hx hb dX3_together_39 rfl (lv_at hl 0 rfl) ?_
  refine gf_3_2 C hw (mo_T ho).1 kw_369 (c1 := (o + 3)) rfl dX3_together_40 ?_
  refine lv_iload_n hx hb dX3_together_43 rfl (lv_at hl 3 rfl) ?_
  obtain ⟨g_7, h⟩ := gd_at h
  refine q_iald C hw (mo_T ho).2.2.2.1 g_7 dX3_together_44 ?_
  obtain ⟨r_8, σ_9, h_10, h⟩ := bd_at h
  refine q_afterI hw (q_runV C hw hl.1 (As := [.int s1, .int (gI σ (o + 3) x3.toNatClampNeg)]) (rest := []) (m_X3_holds l E o ho s1 (gI σ (o + 3) x3.toNatClampNeg) σ r_8 σ_9 h_10) yq_X3_holds (mo_T ho).1 rfl rfl kw_631 ⟨Nat.le_of_ble_eq_true rfl, Nat.le_of_ble_eq_true rfl⟩ rfl (Nat.le_of_ble_eq_true rfl) ⟨Nat.zero_le _, Nat.zero_le _⟩ dX3_together_45) (fun H locs hw => ?_)
  refine lv_if_eq (tgt := 60) hx hb dX3_together_48 (by decide) (fun c_11 => ?_) (fun c_11 => ?_)
  · replace h := it_at h c_11
    exact w_X3_together_60 C o ho _ hk4 _ _ _ _ _ _ _ hw (lv_sub hl [0, 1, 2, 3] rfl) h
  · replace h := ie_at h c_11
    refine lv_iload_n hx hb dX3_together_51 rfl (lv_at hl 2 rfl) ?_
    refine lv_aload_n hx hb dX3_together_52 rfl (lv_at hl 0 rfl) ?_
    refine gf_3_1 C hw (mo_T ho).1 kw_368 (c1 := (o + 2)) rfl dX3_together_53 ?_
    refine lv_iload_n hx hb dX3_together_56 rfl (lv_at hl 3 rfl) ?_
    obtain ⟨g_12, h⟩ := gd_at h
    refine q_iald C hw (mo_T ho).2.2.1 g_12 dX3_together_57 ?_
    refine lv_iadd hx hb dX3_together_58 ?_
    obtain ⟨x2_13, ex2_13, h⟩ := lt_at h
    refine q_top ex2_13 ?_
    refine lv_istore_n (lv' := [(2, .int x2_13), (0, .ref (E.2.1 o)), (1, .int x1), (3, .int x3)]) hx hb dX3_together_59 rfl hl (by decide) rfl (fun ls hl => ?_)
    exact w_X3_together_60 C o ho _ hk4 _ _ _ _ _ _ _ hw (lv_sub hl [1, 2, 0, 3] rfl) h
set_option maxHeartbeats 4000000 in
set_option maxRecDepth 100000 in
theorem w_X3_together_4 {p : Program} {l : Launch} {e : Env} {s : State} {m : MethodId} {args : Array Value} {below : List Frame} {meth : Method} {c : Code} {E : EV} {rr : Int32} {τ : Mem} (C : Cx E p s m args meth c cX3_together 4 (some .int) RX3) (o : Nat) (ho : MO o) : ∀ (n : Nat) (x1 : Int32) (x2 : Int32) (x3 : Int32) (σ : Mem) (H : Heap) (locs : List Loc) (ls : Array Slot) (hw : Wd TC E σ s H locs) (hl : lv_has ls 4 [(0, .ref (E.2.1 o)), (1, .int x1), (2, .int x2), (3, .int x3)]) (h : fx4 (f_X3_together_4 o) n x1 x2 x3 σ = some (rr, τ)), W p l e { frames := 1, cells := 0, slots := 0, locals := 29 } s m args below meth c H locs 0 0 (MQ below (QI TC E rr τ) args s 0 0 E.2.2.1) (F0 m 4 ls []) := by
  obtain ⟨hx, hb, hml, hown, hts, hK, hSt, hlk, hr⟩ := id C
  intro n
  induction n with
  | zero =>
    intro x1 x2 x3 σ H locs ls hw hl h
    have h : none = some (rr, τ) := h
    cases h
  | succ n hk4 =>
    intro x1 x2 x3 σ H locs ls hw hl h
    replace h : f_X3_together_4 o (fx4 (f_X3_together_4 o) n) x1 x2 x3 σ = some (rr, τ) := h
    unfold f_X3_together_4 at h
    refine lv_iload_n hx hb dX3_together_4 rfl (lv_at hl 3 rfl) ?_
    refine lv_aload_n hx hb dX3_together_5 rfl (lv_at hl 0 rfl) ?_
    refine gf_3_6 C hw (mo_T ho).1 kw_373 dX3_together_6 ?_
    refine lv_icmp_ge (tgt := 66) hx hb dX3_together_9 (by decide) (fun c_1 => ?_) (fun c_1 => ?_)
    · replace h := it_at h c_1
      refine lv_iload_n hx hb dX3_together_66 rfl (lv_at hl 2 rfl) ?_
      obtain ⟨rfl, rfl⟩ := ret_at h
      exact q_iret C hw dX3_together_67
    · replace h := ie_at h c_1
      refine lv_aload_n hx hb dX3_together_12 rfl (lv_at hl 0 rfl) ?_
      refine gf_3_0 C hw (mo_T ho).1 kw_367 (c1 := (o + 1)) rfl dX3_together_13 ?_
      refine lv_iload_n hx hb dX3_together_16 rfl (lv_at hl 3 rfl) ?_
      obtain ⟨g_2, h⟩ := gd_at h
      refine q_iald C hw (mo_T ho).2.1 g_2 dX3_together_17 ?_
      refine lv_iload_n hx hb dX3_together_18 rfl (lv_at hl 1 rfl) ?_
      refine lv_icmp_ne (tgt := 60) hx hb dX3_together_19 (by decide) (fun c_3 => ?_) (fun c_3 => ?_)
      · replace h := ie_at h c_3
        exact w_X3_together_60 C o ho _ hk4 _ _ _ _ _ _ _ hw (lv_sub hl [0, 1, 2, 3] rfl) h
      · replace h := it_at h c_3
        refine lv_aload_n hx hb dX3_together_22 rfl (lv_at hl 0 rfl) ?_
        refine lv_iload_n hx hb dX3_together_23 rfl (lv_at hl 3 rfl) ?_
        refine lv_if_ne (tgt := 31) hx hb dX3_together_24 (by decide) (fun c_4 => ?_) (fun c_4 => ?_)
        · replace h := ie_at h c_4
          refine lv_aload_n hx hb dX3_together_31 rfl (lv_at hl 0 rfl) ?_
          refine gf_3_2 C hw (mo_T ho).1 kw_369 (c1 := (o + 3)) rfl dX3_together_32 ?_
          refine lv_iload_n hx hb dX3_together_35 rfl (lv_at hl 3 rfl) ?_
          refine lv_iconst (v := 1) hx hb dX3_together_36 (by decide) ?_
          refine lv_isub hx hb dX3_together_37 ?_
          obtain ⟨g_5, h⟩ := gd_at h
          refine q_iald C hw (mo_T ho).2.2.2.1 g_5 dX3_together_38 ?_
          exact w_X3_together_39 C o ho _ hk4 _ _ _ _ _ _ _ _ hw (lv_sub hl [0, 1, 2, 3] rfl) h
        · replace h := it_at h c_4
          refine lv_iconst (v := 0) hx hb dX3_together_27 (by decide) ?_
          refine lv_goto (tgt := 39) hx hb dX3_together_28 (by decide) ?_
          exact w_X3_together_39 C o ho _ hk4 _ _ _ _ _ _ _ _ hw (lv_sub hl [0, 1, 2, 3] rfl) h
set_option maxHeartbeats 4000000 in
set_option maxRecDepth 100000 in
theorem m_X3_together (l : Launch) (E : EV) (o : Nat) (ho : MO o) (p1 : Int32) (σ : Mem) (rr : Int32) (τ : Mem) (h : f_X3_together o p1 σ = some (rr, τ)) : MI TC l E yX3_together cX3_together 4 (some .int) 1 29 [.ref (E.2.1 o), .int p1] σ rr τ := by
  refine mt_start RX3 (by decide +kernel) rfl (Nat.le_of_ble_eq_true rfl) (fun p e s m args below meth c ls C hw hl => ?_)
  replace hl : lv_has ls 4 [(0, .ref (E.2.1 o)), (1, .int p1)] := hl
  obtain ⟨hx, hb, hml, hown, hts, hK, hSt, hlk, hr⟩ := id C
  unfold f_X3_together at h
  refine lv_iconst (v := 0) hx hb dX3_together_0 (by decide) ?_
  refine lv_istore_n (lv' := [(2, .int (0 : Int32)), (0, .ref (E.2.1 o)), (1, .int p1)]) hx hb dX3_together_1 rfl hl (by decide) rfl (fun ls hl => ?_)
  refine lv_iconst (v := 0) hx hb dX3_together_2 (by decide) ?_
  refine lv_istore_n (lv' := [(3, .int (0 : Int32)), (2, .int (0 : Int32)), (0, .ref (E.2.1 o)), (1, .int p1)]) hx hb dX3_together_3 rfl hl (by decide) rfl (fun ls hl => ?_)
  exact w_X3_together_4 C o ho _ _ _ _ _ _ _ _ hw (lv_sub hl [2, 3, 1, 0] rfl) h
def f_X3_toStep (p0 : Int32) (σ : Mem) : Option (Int32 × Mem) :=
  some (imx (0 : Int32) (imn (9 : Int32) p0), σ)
set_option maxHeartbeats 4000000 in
set_option maxRecDepth 100000 in
theorem m_X3_toStep (l : Launch) (E : EV) (p0 : Int32) (σ : Mem) (rr : Int32) (τ : Mem) (h : f_X3_toStep p0 σ = some (rr, τ)) : MI TC l E yX3_toStep cX3_toStep 1 (some .int) 1 21 [.int p0] σ rr τ := by
  refine mt_start RX3 (by decide +kernel) rfl (Nat.le_of_ble_eq_true rfl) (fun p e s m args below meth c ls C hw hl => ?_)
  replace hl : lv_has ls 1 [(0, .int p0)] := hl
  obtain ⟨hx, hb, hml, hown, hts, hK, hSt, hlk, hr⟩ := id C
  unfold f_X3_toStep at h
  refine lv_iconst (v := 0) hx hb dX3_toStep_0 (by decide) ?_
  refine lv_bipush (v := 9) hx hb dX3_toStep_1 (by decide) ?_
  refine lv_iload_n hx hb dX3_toStep_3 rfl (lv_at hl 0 rfl) ?_
  refine q_min C hl.1 kw_635 (Nat.le_of_ble_eq_true rfl) (Nat.le_of_ble_eq_true rfl) (Nat.le_of_ble_eq_true rfl) ⟨Nat.zero_le _, Nat.zero_le _⟩ dX3_toStep_4 ?_
  refine q_max C hl.1 kw_640 (Nat.le_of_ble_eq_true rfl) (Nat.le_of_ble_eq_true rfl) (Nat.le_of_ble_eq_true rfl) ⟨Nat.zero_le _, Nat.zero_le _⟩ dX3_toStep_7 ?_
  obtain ⟨rfl, rfl⟩ := ret_at h
  exact q_iret C hw dX3_toStep_10
def f_X3_hourBy_227 (o : Nat) (x5 : Int32) (x7 : Int32) (σ : Mem) : Option (Int32 × Mem) :=
  gd (ib x5 4800) <|
  lt (sI σ (o + 6) x5.toNatClampNeg x7) fun σ_40 =>
  some (x7, σ_40)
def f_X3_hourBy_224 (o : Nat) (x5 : Int32) (s0 : Int32) (s1 : Int32) (σ : Mem) : Option (Int32 × Mem) :=
  lt (s0 ||| s1) fun x7_39 =>
  f_X3_hourBy_227 o x5 x7_39 σ
def f_X3_hourBy (o : Nat) (p1 : Int32) (p2 : Int32) (p3 : Int32) (p4 : Int32) (σ : Mem) : Option (Int32 × Mem) :=
  lt ((((((p1 * (8 : Int32)) + p2) * (10 : Int32)) + p3) * (10 : Int32)) + p4) fun x5_1 =>
  if x5_1 < 0 then
    (some ((67108864 : Int32), σ))
  else
    if x5_1 < (4800 : Int32) then
      (gd (ib x5_1 4800) <|
      if (gI σ (o + 6) x5_1.toNatClampNeg) = 0 then
        (lt (sI σ (o + 5) 0 p1) fun σ_6 =>
        lt (sI σ_6 (o + 5) 1 (p2 / (2 : Int32))) fun σ_7 =>
        lt (sI σ_7 (o + 5) 2 (irm p2 (2 : Int32))) fun σ_8 =>
        lt (sI σ_8 (o + 5) 3 p3) fun σ_9 =>
        lt (sI σ_9 (o + 5) 4 p4) fun σ_10 =>
        lt (sI σ_10 (o + 5) 5 (0 : Int32)) fun σ_11 =>
        bd (f_X3_together o (0 : Int32) σ_11) fun r_12 σ_13 =>
        lt (imn (99 : Int32) r_12) fun x6_15 =>
        lt (sI σ_13 (o + 5) 5 x6_15) fun σ_16 =>
        lt ((134217728 : Int32) ||| x6_15) fun x7_17 =>
        if x6_15 ≤ (gI σ_16 o 9) then
          (bd (f_X3_together o (2 : Int32) σ_16) fun r_19 σ_20 =>
          bd (f_X3_toStep ((p3 + r_19) - (gI σ_20 o 8)) σ_20) fun r_22 σ_23 =>
          lt (x7_17 ||| (r_22 <<< ((17 : Int32) &&& 31))) fun x7_25 =>
          bd (f_X3_together o (3 : Int32) σ_23) fun r_26 σ_27 =>
          bd (f_X3_toStep (p4 + r_26) σ_27) fun r_29 σ_30 =>
          lt (x7_25 ||| (r_29 <<< ((21 : Int32) &&& 31))) fun x7_32 =>
          if p3 < (gI σ_30 o 10) then
            (bd (f_X3_together o (1 : Int32) σ_30) fun r_34 σ_35 =>
            f_X3_hourBy_224 o x5_1 x7_32 (r_34 <<< ((7 : Int32) &&& 31)) σ_35)
          else
            f_X3_hourBy_224 o x5_1 x7_32 (33554432 : Int32) σ_30)
        else
          lt (x7_17 ||| (((67108864 : Int32) ||| (p3 <<< ((17 : Int32) &&& 31))) ||| (p4 <<< ((21 : Int32) &&& 31)))) fun x7_37 =>
          f_X3_hourBy_227 o x5_1 x7_37 σ_16)
      else
        gd (ib x5_1 4800) <|
        some (gI σ (o + 6) x5_1.toNatClampNeg, σ))
    else
      some ((67108864 : Int32), σ)
set_option maxHeartbeats 4000000 in
set_option maxRecDepth 100000 in
theorem w_X3_hourBy_227 {p : Program} {l : Launch} {e : Env} {s : State} {m : MethodId} {args : Array Value} {below : List Frame} {meth : Method} {c : Code} {E : EV} {rr : Int32} {τ : Mem} (C : Cx E p s m args meth c cX3_hourBy 8 (some .int) RX3) (o : Nat) (ho : MO o) : ∀ (x5 : Int32) (x7 : Int32) (σ : Mem) (H : Heap) (locs : List Loc) (ls : Array Slot) (hw : Wd TC E σ s H locs) (hl : lv_has ls 8 [(0, .ref (E.2.1 o)), (5, .int x5), (7, .int x7)]) (h : f_X3_hourBy_227 o x5 x7 σ = some (rr, τ)), W p l e { frames := 2, cells := 0, slots := 0, locals := 52 } s m args below meth c H locs 0 0 (MQ below (QI TC E rr τ) args s 0 0 E.2.2.1) (F0 m 227 ls []) := by
  obtain ⟨hx, hb, hml, hown, hts, hK, hSt, hlk, hr⟩ := id C
  intro x5 x7 σ H locs ls hw hl h
  unfold f_X3_hourBy_227 at h
  refine lv_aload_n hx hb dX3_hourBy_227 rfl (lv_at hl 0 rfl) ?_
  refine gf_3_5 C hw (mo_T ho).1 kw_372 (c1 := (o + 6)) rfl dX3_hourBy_228 ?_
  refine lv_iload hx hb dX3_hourBy_231 (lv_at hl 1 rfl) ?_
  refine lv_iload hx hb dX3_hourBy_233 (lv_at hl 2 rfl) ?_
  obtain ⟨g_41, h⟩ := gd_at h
  obtain ⟨σ_40, eσ_40, h⟩ := lt_at h
  refine q_iast C hw (mo_T ho).2.2.2.2.2.2 g_41 eσ_40 dX3_hourBy_235 (fun H locs hw => ?_)
  refine lv_iload hx hb dX3_hourBy_236 (lv_at hl 2 rfl) ?_
  obtain ⟨rfl, rfl⟩ := ret_at h
  exact q_iret C hw dX3_hourBy_238
set_option maxHeartbeats 4000000 in
set_option maxRecDepth 100000 in
theorem w_X3_hourBy_224 {p : Program} {l : Launch} {e : Env} {s : State} {m : MethodId} {args : Array Value} {below : List Frame} {meth : Method} {c : Code} {E : EV} {rr : Int32} {τ : Mem} (C : Cx E p s m args meth c cX3_hourBy 8 (some .int) RX3) (o : Nat) (ho : MO o) : ∀ (x5 : Int32) (s0 : Int32) (s1 : Int32) (σ : Mem) (H : Heap) (locs : List Loc) (ls : Array Slot) (hw : Wd TC E σ s H locs) (hl : lv_has ls 8 [(0, .ref (E.2.1 o)), (5, .int x5)]) (h : f_X3_hourBy_224 o x5 s0 s1 σ = some (rr, τ)), W p l e { frames := 2, cells := 0, slots := 0, locals := 52 } s m args below meth c H locs 0 0 (MQ below (QI TC E rr τ) args s 0 0 E.2.2.1) (F0 m 224 ls [.int s1, .int s0]) := by
  obtain ⟨hx, hb, hml, hown, hts, hK, hSt, hlk, hr⟩ := id C
  intro x5 s0 s1 σ H locs ls hw hl h
  unfold f_X3_hourBy_224 at h
  refine lv_ior hx hb dX3_hourBy_224 ?_
  obtain ⟨x7_39, ex7_39, h⟩ := lt_at h
  refine q_top ex7_39 ?_
  refine lv_istore (lv' := [(7, .int x7_39), (0, .ref (E.2.1 o)), (5, .int x5)]) hx hb dX3_hourBy_225 hl (by decide) rfl (fun ls hl => ?_)
  exact w_X3_hourBy_227 C o ho _ _ _ _ _ _ hw (lv_sub hl [1, 2, 0] rfl) h
set_option maxHeartbeats 4000000 in
set_option maxRecDepth 100000 in
theorem m_X3_hourBy (l : Launch) (E : EV) (o : Nat) (ho : MO o) (p1 : Int32) (p2 : Int32) (p3 : Int32) (p4 : Int32) (σ : Mem) (rr : Int32) (τ : Mem) (h : f_X3_hourBy o p1 p2 p3 p4 σ = some (rr, τ)) : MI TC l E yX3_hourBy cX3_hourBy 8 (some .int) 2 52 [.ref (E.2.1 o), .int p1, .int p2, .int p3, .int p4] σ rr τ := by
  refine mt_start RX3 (by decide +kernel) rfl (Nat.le_of_ble_eq_true rfl) (fun p e s m args below meth c ls C hw hl => ?_)
  replace hl : lv_has ls 8 [(0, .ref (E.2.1 o)), (1, .int p1), (2, .int p2), (3, .int p3), (4, .int p4)] := hl
  obtain ⟨hx, hb, hml, hown, hts, hK, hSt, hlk, hr⟩ := id C
  unfold f_X3_hourBy at h
  refine lv_iload_n hx hb dX3_hourBy_0 rfl (lv_at hl 1 rfl) ?_
  refine lv_bipush (v := 8) hx hb dX3_hourBy_1 (by decide) ?_
  refine lv_imul hx hb dX3_hourBy_3 ?_
  refine lv_iload_n hx hb dX3_hourBy_4 rfl (lv_at hl 2 rfl) ?_
  refine lv_iadd hx hb dX3_hourBy_5 ?_
  refine lv_bipush (v := 10) hx hb dX3_hourBy_6 (by decide) ?_
  refine lv_imul hx hb dX3_hourBy_8 ?_
  refine lv_iload_n hx hb dX3_hourBy_9 rfl (lv_at hl 3 rfl) ?_
  refine lv_iadd hx hb dX3_hourBy_10 ?_
  refine lv_bipush (v := 10) hx hb dX3_hourBy_11 (by decide) ?_
  refine lv_imul hx hb dX3_hourBy_13 ?_
  refine lv_iload hx hb dX3_hourBy_14 (lv_at hl 4 rfl) ?_
  refine lv_iadd hx hb dX3_hourBy_16 ?_
  obtain ⟨x5_1, ex5_1, h⟩ := lt_at h
  refine q_top ex5_1 ?_
  refine lv_istore (lv' := [(5, .int x5_1), (0, .ref (E.2.1 o)), (1, .int p1), (2, .int p2), (3, .int p3), (4, .int p4)]) hx hb dX3_hourBy_17 hl (by decide) rfl (fun ls hl => ?_)
  refine lv_iload hx hb dX3_hourBy_19 (lv_at hl 0 rfl) ?_
  refine lv_if_lt (tgt := 34) hx hb dX3_hourBy_21 (by decide) (fun c_2 => ?_) (fun c_2 => ?_)
  · replace h := it_at h c_2
    refine lv_ldc hx hb hown (hts _ kw_626) dX3_hourBy_34 ?_
    obtain ⟨rfl, rfl⟩ := ret_at h
    exact q_iret C hw dX3_hourBy_36
  · replace h := ie_at h c_2
    refine lv_iload hx hb dX3_hourBy_24 (lv_at hl 0 rfl) ?_
    refine lv_aload_n hx hb dX3_hourBy_26 rfl (lv_at hl 1 rfl) ?_
    refine gf_3_5 C hw (mo_T ho).1 kw_372 (c1 := (o + 6)) rfl dX3_hourBy_27 ?_
    refine q_alen C hw (mo_T ho).2.2.2.2.2.2 (v := 4800) rfl dX3_hourBy_30 ?_
    refine lv_icmp_lt (tgt := 37) hx hb dX3_hourBy_31 (by decide) (fun c_3 => ?_) (fun c_3 => ?_)
    · replace h := it_at h c_3
      refine lv_aload_n hx hb dX3_hourBy_37 rfl (lv_at hl 1 rfl) ?_
      refine gf_3_5 C hw (mo_T ho).1 kw_372 (c1 := (o + 6)) rfl dX3_hourBy_38 ?_
      refine lv_iload hx hb dX3_hourBy_41 (lv_at hl 0 rfl) ?_
      obtain ⟨g_4, h⟩ := gd_at h
      refine q_iald C hw (mo_T ho).2.2.2.2.2.2 g_4 dX3_hourBy_43 ?_
      refine lv_if_eq (tgt := 55) hx hb dX3_hourBy_44 (by decide) (fun c_5 => ?_) (fun c_5 => ?_)
      · replace h := it_at h c_5
        refine lv_aload_n hx hb dX3_hourBy_55 rfl (lv_at hl 1 rfl) ?_
        refine gf_3_4 C hw (mo_T ho).1 kw_371 (c1 := (o + 5)) rfl dX3_hourBy_56 ?_
        refine lv_iconst (v := 0) hx hb dX3_hourBy_59 (by decide) ?_
        refine lv_iload_n hx hb dX3_hourBy_60 rfl (lv_at hl 2 rfl) ?_
        obtain ⟨σ_6, eσ_6, h⟩ := lt_at h
        refine q_iastk C hw (mo_T ho).2.2.2.2.2.1 (k := 0) (by rfl) (by decide) (by decide) eσ_6 dX3_hourBy_61 (fun H locs hw => ?_)
        refine lv_aload_n hx hb dX3_hourBy_62 rfl (lv_at hl 1 rfl) ?_
        refine gf_3_4 C hw (mo_T ho).1 kw_371 (c1 := (o + 5)) rfl dX3_hourBy_63 ?_
        refine lv_iconst (v := 1) hx hb dX3_hourBy_66 (by decide) ?_
        refine lv_iload_n hx hb dX3_hourBy_67 rfl (lv_at hl 3 rfl) ?_
        refine lv_iconst (v := 2) hx hb dX3_hourBy_68 (by decide) ?_
        refine lv_idiv hx hb dX3_hourBy_69 (by decide) ?_
        obtain ⟨σ_7, eσ_7, h⟩ := lt_at h
        refine q_iastk C hw (mo_T ho).2.2.2.2.2.1 (k := 1) (by rfl) (by decide) (by decide) eσ_7 dX3_hourBy_70 (fun H locs hw => ?_)
        refine lv_aload_n hx hb dX3_hourBy_71 rfl (lv_at hl 1 rfl) ?_
        refine gf_3_4 C hw (mo_T ho).1 kw_371 (c1 := (o + 5)) rfl dX3_hourBy_72 ?_
        refine lv_iconst (v := 2) hx hb dX3_hourBy_75 (by decide) ?_
        refine lv_iload_n hx hb dX3_hourBy_76 rfl (lv_at hl 3 rfl) ?_
        refine lv_iconst (v := 2) hx hb dX3_hourBy_77 (by decide) ?_
        refine q_irem hx hb dX3_hourBy_78 (by decide) ?_
        obtain ⟨σ_8, eσ_8, h⟩ := lt_at h
        refine q_iastk C hw (mo_T ho).2.2.2.2.2.1 (k := 2) (by rfl) (by decide) (by decide) eσ_8 dX3_hourBy_79 (fun H locs hw => ?_)
        refine lv_aload_n hx hb dX3_hourBy_80 rfl (lv_at hl 1 rfl) ?_
        refine gf_3_4 C hw (mo_T ho).1 kw_371 (c1 := (o + 5)) rfl dX3_hourBy_81 ?_
        refine lv_iconst (v := 3) hx hb dX3_hourBy_84 (by decide) ?_
        refine lv_iload_n hx hb dX3_hourBy_85 rfl (lv_at hl 4 rfl) ?_
        obtain ⟨σ_9, eσ_9, h⟩ := lt_at h
        refine q_iastk C hw (mo_T ho).2.2.2.2.2.1 (k := 3) (by rfl) (by decide) (by decide) eσ_9 dX3_hourBy_86 (fun H locs hw => ?_)
        refine lv_aload_n hx hb dX3_hourBy_87 rfl (lv_at hl 1 rfl) ?_
        refine gf_3_4 C hw (mo_T ho).1 kw_371 (c1 := (o + 5)) rfl dX3_hourBy_88 ?_
        refine lv_iconst (v := 4) hx hb dX3_hourBy_91 (by decide) ?_
        refine lv_iload hx hb dX3_hourBy_92 (lv_at hl 5 rfl) ?_
        obtain ⟨σ_10, eσ_10, h⟩ := lt_at h
        refine q_iastk C hw (mo_T ho).2.2.2.2.2.1 (k := 4) (by rfl) (by decide) (by decide) eσ_10 dX3_hourBy_94 (fun H locs hw => ?_)
        refine lv_aload_n hx hb dX3_hourBy_95 rfl (lv_at hl 1 rfl) ?_
        refine gf_3_4 C hw (mo_T ho).1 kw_371 (c1 := (o + 5)) rfl dX3_hourBy_96 ?_
        refine lv_iconst (v := 5) hx hb dX3_hourBy_99 (by decide) ?_
        refine lv_iconst (v := 0) hx hb dX3_hourBy_100 (by decide) ?_
        obtain ⟨σ_11, eσ_11, h⟩ := lt_at h
        refine q_iastk C hw (mo_T ho).2.2.2.2.2.1 (k := 5) (by rfl) (by decide) (by decide) eσ_11 dX3_hourBy_101 (fun H locs hw => ?_)
        refine lv_bipush (v := 99) hx hb dX3_hourBy_102 (by decide) ?_
        refine lv_aload_n hx hb dX3_hourBy_104 rfl (lv_at hl 1 rfl) ?_
        refine lv_iconst (v := 0) hx hb dX3_hourBy_105 (by decide) ?_
        obtain ⟨r_12, σ_13, h_14, h⟩ := bd_at h
        refine q_afterI hw (q_runV C hw hl.1 (As := [.int (0 : Int32)]) (rest := [.int (99 : Int32)]) (m_X3_together l E o ho (0 : Int32) σ_11 r_12 σ_13 h_14) yq_X3_together (mo_T ho).1 rfl rfl kw_627 ⟨Nat.le_of_ble_eq_true rfl, Nat.le_of_ble_eq_true rfl⟩ rfl (Nat.le_of_ble_eq_true rfl) ⟨Nat.zero_le _, Nat.zero_le _⟩ dX3_hourBy_106) (fun H locs hw => ?_)
        refine q_min C hl.1 kw_635 (Nat.le_of_ble_eq_true rfl) (Nat.le_of_ble_eq_true rfl) (Nat.le_of_ble_eq_true rfl) ⟨Nat.zero_le _, Nat.zero_le _⟩ dX3_hourBy_109 ?_
        obtain ⟨x6_15, ex6_15, h⟩ := lt_at h
        refine q_top ex6_15 ?_
        refine lv_istore (lv' := [(6, .int x6_15), (5, .int x5_1), (0, .ref (E.2.1 o)), (1, .int p1), (2, .int p2), (3, .int p3), (4, .int p4)]) hx hb dX3_hourBy_112 hl (by decide) rfl (fun ls hl => ?_)
        refine lv_aload_n hx hb dX3_hourBy_114 rfl (lv_at hl 2 rfl) ?_
        refine gf_3_4 C hw (mo_T ho).1 kw_371 (c1 := (o + 5)) rfl dX3_hourBy_115 ?_
        refine lv_iconst (v := 5) hx hb dX3_hourBy_118 (by decide) ?_
        refine lv_iload hx hb dX3_hourBy_119 (lv_at hl 0 rfl) ?_
        obtain ⟨σ_16, eσ_16, h⟩ := lt_at h
        refine q_iastk C hw (mo_T ho).2.2.2.2.2.1 (k := 5) (by rfl) (by decide) (by decide) eσ_16 dX3_hourBy_121 (fun H locs hw => ?_)
        refine lv_ldc hx hb hown (hts _ kw_636) dX3_hourBy_122 ?_
        refine lv_iload hx hb dX3_hourBy_124 (lv_at hl 0 rfl) ?_
        refine lv_ior hx hb dX3_hourBy_126 ?_
        obtain ⟨x7_17, ex7_17, h⟩ := lt_at h
        refine q_top ex7_17 ?_
        refine lv_istore (lv' := [(7, .int x7_17), (6, .int x6_15), (5, .int x5_1), (0, .ref (E.2.1 o)), (1, .int p1), (2, .int p2), (3, .int p3), (4, .int p4)]) hx hb dX3_hourBy_127 hl (by decide) rfl (fun ls hl => ?_)
        refine lv_iload hx hb dX3_hourBy_129 (lv_at hl 1 rfl) ?_
        refine lv_aload_n hx hb dX3_hourBy_131 rfl (lv_at hl 3 rfl) ?_
        refine gf_3_9 C hw (mo_T ho).1 kw_376 dX3_hourBy_132 ?_
        refine lv_icmp_le (tgt := 159) hx hb dX3_hourBy_135 (by decide) (fun c_18 => ?_) (fun c_18 => ?_)
        · replace h := it_at h c_18
          refine lv_iload hx hb dX3_hourBy_159 (lv_at hl 0 rfl) ?_
          refine lv_iload_n hx hb dX3_hourBy_161 rfl (lv_at hl 6 rfl) ?_
          refine lv_aload_n hx hb dX3_hourBy_162 rfl (lv_at hl 3 rfl) ?_
          refine lv_iconst (v := 2) hx hb dX3_hourBy_163 (by decide) ?_
          obtain ⟨r_19, σ_20, h_21, h⟩ := bd_at h
          refine q_afterI hw (q_runV C hw hl.1 (As := [.int (2 : Int32)]) (rest := [.int p3, .int x7_17]) (m_X3_together l E o ho (2 : Int32) σ_16 r_19 σ_20 h_21) yq_X3_together (mo_T ho).1 rfl rfl kw_627 ⟨Nat.le_of_ble_eq_true rfl, Nat.le_of_ble_eq_true rfl⟩ rfl (Nat.le_of_ble_eq_true rfl) ⟨Nat.zero_le _, Nat.zero_le _⟩ dX3_hourBy_164) (fun H locs hw => ?_)
          refine lv_iadd hx hb dX3_hourBy_167 ?_
          refine lv_aload_n hx hb dX3_hourBy_168 rfl (lv_at hl 3 rfl) ?_
          refine gf_3_8 C hw (mo_T ho).1 kw_375 dX3_hourBy_169 ?_
          refine lv_isub hx hb dX3_hourBy_172 ?_
          obtain ⟨r_22, σ_23, h_24, h⟩ := bd_at h
          refine q_afterI hw (q_runS C hw hl.1 (As := [.int ((p3 + r_19) - (gI σ_20 o 8))]) (rest := [.int x7_17]) (m_X3_toStep l E ((p3 + r_19) - (gI σ_20 o 8)) σ_20 r_22 σ_23 h_24) yq_X3_toStep kw_637 ⟨Nat.le_of_ble_eq_true rfl, Nat.le_of_ble_eq_true rfl⟩ rfl (Nat.le_of_ble_eq_true rfl) ⟨Nat.zero_le _, Nat.zero_le _⟩ dX3_hourBy_173) (fun H locs hw => ?_)
          refine lv_bipush (v := 17) hx hb dX3_hourBy_176 (by decide) ?_
          refine lv_ishl hx hb dX3_hourBy_178 ?_
          refine lv_ior hx hb dX3_hourBy_179 ?_
          obtain ⟨x7_25, ex7_25, h⟩ := lt_at h
          refine q_top ex7_25 ?_
          refine lv_istore (lv' := [(7, .int x7_25), (6, .int x6_15), (5, .int x5_1), (0, .ref (E.2.1 o)), (1, .int p1), (2, .int p2), (3, .int p3), (4, .int p4)]) hx hb dX3_hourBy_180 hl (by decide) rfl (fun ls hl => ?_)
          refine lv_iload hx hb dX3_hourBy_182 (lv_at hl 0 rfl) ?_
          refine lv_iload hx hb dX3_hourBy_184 (lv_at hl 7 rfl) ?_
          refine lv_aload_n hx hb dX3_hourBy_186 rfl (lv_at hl 3 rfl) ?_
          refine lv_iconst (v := 3) hx hb dX3_hourBy_187 (by decide) ?_
          obtain ⟨r_26, σ_27, h_28, h⟩ := bd_at h
          refine q_afterI hw (q_runV C hw hl.1 (As := [.int (3 : Int32)]) (rest := [.int p4, .int x7_25]) (m_X3_together l E o ho (3 : Int32) σ_23 r_26 σ_27 h_28) yq_X3_together (mo_T ho).1 rfl rfl kw_627 ⟨Nat.le_of_ble_eq_true rfl, Nat.le_of_ble_eq_true rfl⟩ rfl (Nat.le_of_ble_eq_true rfl) ⟨Nat.zero_le _, Nat.zero_le _⟩ dX3_hourBy_188) (fun H locs hw => ?_)
          refine lv_iadd hx hb dX3_hourBy_191 ?_
          obtain ⟨r_29, σ_30, h_31, h⟩ := bd_at h
          refine q_afterI hw (q_runS C hw hl.1 (As := [.int (p4 + r_26)]) (rest := [.int x7_25]) (m_X3_toStep l E (p4 + r_26) σ_27 r_29 σ_30 h_31) yq_X3_toStep kw_637 ⟨Nat.le_of_ble_eq_true rfl, Nat.le_of_ble_eq_true rfl⟩ rfl (Nat.le_of_ble_eq_true rfl) ⟨Nat.zero_le _, Nat.zero_le _⟩ dX3_hourBy_192) (fun H locs hw => ?_)
          refine lv_bipush (v := 21) hx hb dX3_hourBy_195 (by decide) ?_
          refine lv_ishl hx hb dX3_hourBy_197 ?_
          refine lv_ior hx hb dX3_hourBy_198 ?_
          obtain ⟨x7_32, ex7_32, h⟩ := lt_at h
          refine q_top ex7_32 ?_
          refine lv_istore (lv' := [(7, .int x7_32), (6, .int x6_15), (5, .int x5_1), (0, .ref (E.2.1 o)), (1, .int p1), (2, .int p2), (3, .int p3), (4, .int p4)]) hx hb dX3_hourBy_199 hl (by decide) rfl (fun ls hl => ?_)
          refine lv_iload hx hb dX3_hourBy_201 (lv_at hl 0 rfl) ?_
          refine lv_iload_n hx hb dX3_hourBy_203 rfl (lv_at hl 6 rfl) ?_
          refine lv_aload_n hx hb dX3_hourBy_204 rfl (lv_at hl 3 rfl) ?_
          refine gf_3_10 C hw (mo_T ho).1 kw_377 dX3_hourBy_205 ?_
          refine lv_icmp_lt (tgt := 216) hx hb dX3_hourBy_208 (by decide) (fun c_33 => ?_) (fun c_33 => ?_)
          · replace h := it_at h c_33
            refine lv_aload_n hx hb dX3_hourBy_216 rfl (lv_at hl 3 rfl) ?_
            refine lv_iconst (v := 1) hx hb dX3_hourBy_217 (by decide) ?_
            obtain ⟨r_34, σ_35, h_36, h⟩ := bd_at h
            refine q_afterI hw (q_runV C hw hl.1 (As := [.int (1 : Int32)]) (rest := [.int x7_32]) (m_X3_together l E o ho (1 : Int32) σ_30 r_34 σ_35 h_36) yq_X3_together (mo_T ho).1 rfl rfl kw_627 ⟨Nat.le_of_ble_eq_true rfl, Nat.le_of_ble_eq_true rfl⟩ rfl (Nat.le_of_ble_eq_true rfl) ⟨Nat.zero_le _, Nat.zero_le _⟩ dX3_hourBy_218) (fun H locs hw => ?_)
            refine lv_bipush (v := 7) hx hb dX3_hourBy_221 (by decide) ?_
            refine lv_ishl hx hb dX3_hourBy_223 ?_
            exact w_X3_hourBy_224 C o ho _ _ _ _ _ _ _ hw (lv_sub hl [3, 2] rfl) h
          · replace h := ie_at h c_33
            refine lv_ldc hx hb hown (hts _ kw_641) dX3_hourBy_211 ?_
            refine lv_goto (tgt := 224) hx hb dX3_hourBy_213 (by decide) ?_
            exact w_X3_hourBy_224 C o ho _ _ _ _ _ _ _ hw (lv_sub hl [3, 2] rfl) h
        · replace h := ie_at h c_18
          refine lv_iload hx hb dX3_hourBy_138 (lv_at hl 0 rfl) ?_
          refine lv_ldc hx hb hown (hts _ kw_626) dX3_hourBy_140 ?_
          refine lv_iload_n hx hb dX3_hourBy_142 rfl (lv_at hl 6 rfl) ?_
          refine lv_bipush (v := 17) hx hb dX3_hourBy_143 (by decide) ?_
          refine lv_ishl hx hb dX3_hourBy_145 ?_
          refine lv_ior hx hb dX3_hourBy_146 ?_
          refine lv_iload hx hb dX3_hourBy_147 (lv_at hl 7 rfl) ?_
          refine lv_bipush (v := 21) hx hb dX3_hourBy_149 (by decide) ?_
          refine lv_ishl hx hb dX3_hourBy_151 ?_
          refine lv_ior hx hb dX3_hourBy_152 ?_
          refine lv_ior hx hb dX3_hourBy_153 ?_
          obtain ⟨x7_37, ex7_37, h⟩ := lt_at h
          refine q_top ex7_37 ?_
          refine lv_istore (lv' := [(7, .int x7_37), (6, .int x6_15), (5, .int x5_1), (0, .ref (E.2.1 o)), (1, .int p1), (2, .int p2), (3, .int p3), (4, .int p4)]) hx hb dX3_hourBy_154 hl (by decide) rfl (fun ls hl => ?_)
          refine lv_goto (tgt := 227) hx hb dX3_hourBy_156 (by decide) ?_
          exact w_X3_hourBy_227 C o ho _ _ _ _ _ _ hw (lv_sub hl [3, 2, 0] rfl) h
      · replace h := ie_at h c_5
        refine lv_aload_n hx hb dX3_hourBy_47 rfl (lv_at hl 1 rfl) ?_
        refine gf_3_5 C hw (mo_T ho).1 kw_372 (c1 := (o + 6)) rfl dX3_hourBy_48 ?_
        refine lv_iload hx hb dX3_hourBy_51 (lv_at hl 0 rfl) ?_
        obtain ⟨g_38, h⟩ := gd_at h
        refine q_iald C hw (mo_T ho).2.2.2.2.2.2 g_38 dX3_hourBy_53 ?_
        obtain ⟨rfl, rfl⟩ := ret_at h
        exact q_iret C hw dX3_hourBy_54
    · replace h := ie_at h c_3
      refine lv_ldc hx hb hown (hts _ kw_626) dX3_hourBy_34 ?_
      obtain ⟨rfl, rfl⟩ := ret_at h
      exact q_iret C hw dX3_hourBy_36
def f_X3_isAway (p0 : Int32) (σ : Mem) : Option (Int32 × Mem) :=
  if (p0 &&& (67108864 : Int32)) = 0 then
    (some ((0 : Int32), σ))
  else
    some ((1 : Int32), σ)
set_option maxHeartbeats 4000000 in
set_option maxRecDepth 100000 in
theorem m_X3_isAway (l : Launch) (E : EV) (p0 : Int32) (σ : Mem) (rr : Int32) (τ : Mem) (h : f_X3_isAway p0 σ = some (rr, τ)) : MI TC l E yX3_isAway cX3_isAway 1 (some .boolean) 0 0 [.int p0] σ rr τ := by
  refine mt_start RX3 (by decide +kernel) rfl (Nat.le_of_ble_eq_true rfl) (fun p e s m args below meth c ls C hw hl => ?_)
  replace hl : lv_has ls 1 [(0, .int p0)] := hl
  obtain ⟨hx, hb, hml, hown, hts, hK, hSt, hlk, hr⟩ := id C
  unfold f_X3_isAway at h
  refine lv_iload_n hx hb dX3_isAway_0 rfl (lv_at hl 0 rfl) ?_
  refine lv_ldc hx hb hown (hts _ kw_626) dX3_isAway_1 ?_
  refine lv_iand hx hb dX3_isAway_3 ?_
  refine lv_if_eq (tgt := 11) hx hb dX3_isAway_4 (by decide) (fun c_1 => ?_) (fun c_1 => ?_)
  · replace h := it_at h c_1
    refine lv_iconst (v := 0) hx hb dX3_isAway_11 (by decide) ?_
    obtain ⟨rfl, rfl⟩ := ret_at h
    exact q_zret C (by decide) hw dX3_isAway_12
  · replace h := ie_at h c_1
    refine lv_iconst (v := 1) hx hb dX3_isAway_7 (by decide) ?_
    refine lv_goto (tgt := 12) hx hb dX3_isAway_8 (by decide) ?_
    obtain ⟨rfl, rfl⟩ := ret_at h
    exact q_zret C (by decide) hw dX3_isAway_12
def f_X3_heatOf (p0 : Int32) (σ : Mem) : Option (Int32 × Mem) :=
  some (((p0.toUInt32 >>> ((17 : Int32).toUInt32 &&& Int32.toUInt32 31)).toInt32) &&& (15 : Int32), σ)
set_option maxHeartbeats 4000000 in
set_option maxRecDepth 100000 in
theorem m_X3_heatOf (l : Launch) (E : EV) (p0 : Int32) (σ : Mem) (rr : Int32) (τ : Mem) (h : f_X3_heatOf p0 σ = some (rr, τ)) : MI TC l E yX3_heatOf cX3_heatOf 1 (some .int) 0 0 [.int p0] σ rr τ := by
  refine mt_start RX3 (by decide +kernel) rfl (Nat.le_of_ble_eq_true rfl) (fun p e s m args below meth c ls C hw hl => ?_)
  replace hl : lv_has ls 1 [(0, .int p0)] := hl
  obtain ⟨hx, hb, hml, hown, hts, hK, hSt, hlk, hr⟩ := id C
  unfold f_X3_heatOf at h
  refine lv_iload_n hx hb dX3_heatOf_0 rfl (lv_at hl 0 rfl) ?_
  refine lv_bipush (v := 17) hx hb dX3_heatOf_1 (by decide) ?_
  refine lv_iushr hx hb dX3_heatOf_3 rfl ?_
  refine lv_bipush (v := 15) hx hb dX3_heatOf_4 (by decide) ?_
  refine lv_iand hx hb dX3_heatOf_6 ?_
  obtain ⟨rfl, rfl⟩ := ret_at h
  exact q_iret C hw dX3_heatOf_7
def f_X3_dullOf (p0 : Int32) (σ : Mem) : Option (Int32 × Mem) :=
  some (((p0.toUInt32 >>> ((21 : Int32).toUInt32 &&& Int32.toUInt32 31)).toInt32) &&& (15 : Int32), σ)
set_option maxHeartbeats 4000000 in
set_option maxRecDepth 100000 in
theorem m_X3_dullOf (l : Launch) (E : EV) (p0 : Int32) (σ : Mem) (rr : Int32) (τ : Mem) (h : f_X3_dullOf p0 σ = some (rr, τ)) : MI TC l E yX3_dullOf cX3_dullOf 1 (some .int) 0 0 [.int p0] σ rr τ := by
  refine mt_start RX3 (by decide +kernel) rfl (Nat.le_of_ble_eq_true rfl) (fun p e s m args below meth c ls C hw hl => ?_)
  replace hl : lv_has ls 1 [(0, .int p0)] := hl
  obtain ⟨hx, hb, hml, hown, hts, hK, hSt, hlk, hr⟩ := id C
  unfold f_X3_dullOf at h
  refine lv_iload_n hx hb dX3_dullOf_0 rfl (lv_at hl 0 rfl) ?_
  refine lv_bipush (v := 21) hx hb dX3_dullOf_1 (by decide) ?_
  refine lv_iushr hx hb dX3_dullOf_3 rfl ?_
  refine lv_bipush (v := 15) hx hb dX3_dullOf_4 (by decide) ?_
  refine lv_iand hx hb dX3_dullOf_6 ?_
  obtain ⟨rfl, rfl⟩ := ret_at h
  exact q_iret C hw dX3_dullOf_7
def f_X3_mealOf (p0 : Int32) (σ : Mem) : Option (Int32 × Mem) :=
  some (((p0.toUInt32 >>> ((7 : Int32).toUInt32 &&& Int32.toUInt32 31)).toInt32) &&& (1023 : Int32), σ)
set_option maxHeartbeats 4000000 in
set_option maxRecDepth 100000 in
theorem m_X3_mealOf (l : Launch) (E : EV) (p0 : Int32) (σ : Mem) (rr : Int32) (τ : Mem) (h : f_X3_mealOf p0 σ = some (rr, τ)) : MI TC l E yX3_mealOf cX3_mealOf 1 (some .int) 0 0 [.int p0] σ rr τ := by
  refine mt_start RX3 (by decide +kernel) rfl (Nat.le_of_ble_eq_true rfl) (fun p e s m args below meth c ls C hw hl => ?_)
  replace hl : lv_has ls 1 [(0, .int p0)] := hl
  obtain ⟨hx, hb, hml, hown, hts, hK, hSt, hlk, hr⟩ := id C
  unfold f_X3_mealOf at h
  refine lv_iload_n hx hb dX3_mealOf_0 rfl (lv_at hl 0 rfl) ?_
  refine lv_bipush (v := 7) hx hb dX3_mealOf_1 (by decide) ?_
  refine lv_iushr hx hb dX3_mealOf_3 rfl ?_
  refine lv_sipush (v := 1023) hx hb dX3_mealOf_4 (by decide) ?_
  refine lv_iand hx hb dX3_mealOf_7 ?_
  obtain ⟨rfl, rfl⟩ := ret_at h
  exact q_iret C hw dX3_mealOf_8
def f_X3_gainOf (p0 : Int32) (σ : Mem) : Option (Int32 × Mem) :=
  bd (f_X3_isAway p0 σ) fun r_1 σ_2 =>
  if r_1 = 0 then
    (bd (f_X3_mealOf p0 σ_2) fun r_5 σ_6 =>
    some (r_5, σ_6))
  else
    some ((-1 : Int32), σ_2)
set_option maxHeartbeats 4000000 in
set_option maxRecDepth 100000 in
theorem m_X3_gainOf (l : Launch) (E : EV) (p0 : Int32) (σ : Mem) (rr : Int32) (τ : Mem) (h : f_X3_gainOf p0 σ = some (rr, τ)) : MI TC l E yX3_gainOf cX3_gainOf 1 (some .int) 1 20 [.int p0] σ rr τ := by
  refine mt_start RX3 (by decide +kernel) rfl (Nat.le_of_ble_eq_true rfl) (fun p e s m args below meth c ls C hw hl => ?_)
  replace hl : lv_has ls 1 [(0, .int p0)] := hl
  obtain ⟨hx, hb, hml, hown, hts, hK, hSt, hlk, hr⟩ := id C
  unfold f_X3_gainOf at h
  refine lv_iload_n hx hb dX3_gainOf_0 rfl (lv_at hl 0 rfl) ?_
  obtain ⟨r_1, σ_2, h_3, h⟩ := bd_at h
  refine q_afterI hw (q_runS C hw hl.1 (As := [.int p0]) (rest := []) (m_X3_isAway l E p0 σ r_1 σ_2 h_3) yq_X3_isAway kw_648 ⟨Nat.le_of_ble_eq_true rfl, Nat.le_of_ble_eq_true rfl⟩ rfl (Nat.le_of_ble_eq_true rfl) ⟨Nat.zero_le _, Nat.zero_le _⟩ dX3_gainOf_1) (fun H locs hw => ?_)
  refine lv_if_eq (tgt := 11) hx hb dX3_gainOf_4 (by decide) (fun c_4 => ?_) (fun c_4 => ?_)
  · replace h := it_at h c_4
    refine lv_iload_n hx hb dX3_gainOf_11 rfl (lv_at hl 0 rfl) ?_
    obtain ⟨r_5, σ_6, h_7, h⟩ := bd_at h
    refine q_afterI hw (q_runS C hw hl.1 (As := [.int p0]) (rest := []) (m_X3_mealOf l E p0 σ_2 r_5 σ_6 h_7) yq_X3_mealOf kw_651 ⟨Nat.le_of_ble_eq_true rfl, Nat.le_of_ble_eq_true rfl⟩ rfl (Nat.le_of_ble_eq_true rfl) ⟨Nat.zero_le _, Nat.zero_le _⟩ dX3_gainOf_12) (fun H locs hw => ?_)
    obtain ⟨rfl, rfl⟩ := ret_at h
    exact q_iret C hw dX3_gainOf_15
  · replace h := ie_at h c_4
    refine lv_iconst (v := (-1)) hx hb dX3_gainOf_7 (by decide) ?_
    refine lv_goto (tgt := 15) hx hb dX3_gainOf_8 (by decide) ?_
    obtain ⟨rfl, rfl⟩ := ret_at h
    exact q_iret C hw dX3_gainOf_15
def f_X2_goOn (o : Nat) (p2 : Int32) (p3 : Int32) (σ : Mem) : Option (Int32 × Mem) :=
  lt (sI σ 7 1 ((gI σ 7 1) + (1 : Int32))) fun σ_1 =>
  if (gI σ_1 7 5) = 0 then
    (bd (f_X3_hourBy o p2 p3 (gI σ_1 7 2) (gI σ_1 7 3) σ_1) fun r_3 σ_4 =>
    bd (f_X3_isAway r_3 σ_4) fun r_6 σ_7 =>
    gd (iz r_6) <|
    lt (sI σ_7 7 5 r_6) fun σ_9 =>
    bd (f_X3_heatOf r_3 σ_9) fun r_11 σ_12 =>
    lt (sI σ_12 7 2 r_11) fun σ_14 =>
    bd (f_X3_dullOf r_3 σ_14) fun r_15 σ_16 =>
    lt (sI σ_16 7 3 r_15) fun σ_18 =>
    bd (f_X3_mealOf r_3 σ_18) fun r_19 σ_20 =>
    lt (sI σ_20 7 4 ((gI σ_18 7 4) + r_19)) fun σ_22 =>
    bd (f_X3_gainOf r_3 σ_22) fun r_23 σ_24 =>
    some (r_23, σ_24))
  else
    some ((-1 : Int32), σ_1)
set_option maxHeartbeats 4000000 in
set_option maxRecDepth 100000 in
theorem m_X2_goOn (l : Launch) (E : EV) (o : Nat) (ho : MO o) (p2 : Int32) (p3 : Int32) (σ : Mem) (rr : Int32) (τ : Mem) (h : f_X2_goOn o p2 p3 σ = some (rr, τ)) : MI TC l E yX2_goOn cX2_goOn 5 (some .int) 3 79 [.ref (E.2.1 (7)), .ref (E.2.1 o), .int p2, .int p3] σ rr τ := by
  refine mt_start RX2 (by decide +kernel) rfl (Nat.le_of_ble_eq_true rfl) (fun p e s m args below meth c ls C hw hl => ?_)
  replace hl : lv_has ls 5 [(0, .ref (E.2.1 (7))), (1, .ref (E.2.1 o)), (2, .int p2), (3, .int p3)] := hl
  obtain ⟨hx, hb, hml, hown, hts, hK, hSt, hlk, hr⟩ := id C
  unfold f_X2_goOn at h
  refine lv_aload_n hx hb dX2_goOn_0 rfl (lv_at hl 0 rfl) ?_
  refine lv_dup hx hb dX2_goOn_1 rfl ?_
  refine gf_2_1 C hw tC_7 kw_148 dX2_goOn_2 ?_
  refine lv_iconst (v := 1) hx hb dX2_goOn_5 (by decide) ?_
  refine lv_iadd hx hb dX2_goOn_6 ?_
  obtain ⟨σ_1, eσ_1, h⟩ := lt_at h
  refine pf_2_1 C hw tC_7 kw_148 eσ_1 dX2_goOn_7 (fun H locs hw => ?_)
  refine lv_aload_n hx hb dX2_goOn_10 rfl (lv_at hl 0 rfl) ?_
  refine gf_2_5 C hw tC_7 kw_156 dX2_goOn_11 ?_
  refine lv_if_eq (tgt := 19) hx hb dX2_goOn_14 (by decide) (fun c_2 => ?_) (fun c_2 => ?_)
  · replace h := it_at h c_2
    refine lv_aload_n hx hb dX2_goOn_19 rfl (lv_at hl 1 rfl) ?_
    refine lv_iload_n hx hb dX2_goOn_20 rfl (lv_at hl 2 rfl) ?_
    refine lv_iload_n hx hb dX2_goOn_21 rfl (lv_at hl 3 rfl) ?_
    refine lv_aload_n hx hb dX2_goOn_22 rfl (lv_at hl 0 rfl) ?_
    refine gf_2_2 C hw tC_7 kw_150 dX2_goOn_23 ?_
    refine lv_aload_n hx hb dX2_goOn_26 rfl (lv_at hl 0 rfl) ?_
    refine gf_2_3 C hw tC_7 kw_152 dX2_goOn_27 ?_
    obtain ⟨r_3, σ_4, h_5, h⟩ := bd_at h
    refine q_afterI hw (q_runV C hw hl.1 (As := [.int p2, .int p3, .int (gI σ_1 7 2), .int (gI σ_1 7 3)]) (rest := []) (m_X3_hourBy l E o ho p2 p3 (gI σ_1 7 2) (gI σ_1 7 3) σ_1 r_3 σ_4 h_5) yq_X3_hourBy (mo_T ho).1 rfl rfl kw_711 ⟨Nat.le_of_ble_eq_true rfl, Nat.le_of_ble_eq_true rfl⟩ rfl (Nat.le_of_ble_eq_true rfl) ⟨Nat.zero_le _, Nat.zero_le _⟩ dX2_goOn_30) (fun H locs hw => ?_)
    refine lv_istore (lv' := [(4, .int r_3), (0, .ref (E.2.1 (7))), (1, .ref (E.2.1 o)), (2, .int p2), (3, .int p3)]) hx hb dX2_goOn_33 hl (by decide) rfl (fun ls hl => ?_)
    refine lv_aload_n hx hb dX2_goOn_35 rfl (lv_at hl 1 rfl) ?_
    refine lv_iload hx hb dX2_goOn_36 (lv_at hl 0 rfl) ?_
    obtain ⟨r_6, σ_7, h_8, h⟩ := bd_at h
    refine q_afterI hw (q_runS C hw hl.1 (As := [.int r_3]) (rest := [.ref (E.2.1 (7))]) (m_X3_isAway l E r_3 σ_4 r_6 σ_7 h_8) yq_X3_isAway kw_712 ⟨Nat.le_of_ble_eq_true rfl, Nat.le_of_ble_eq_true rfl⟩ rfl (Nat.le_of_ble_eq_true rfl) ⟨Nat.zero_le _, Nat.zero_le _⟩ dX2_goOn_38) (fun H locs hw => ?_)
    obtain ⟨g_10, h⟩ := gd_at h
    obtain ⟨σ_9, eσ_9, h⟩ := lt_at h
    refine pf_2_5 C hw tC_7 kw_156 g_10 eσ_9 dX2_goOn_41 (fun H locs hw => ?_)
    refine lv_aload_n hx hb dX2_goOn_44 rfl (lv_at hl 1 rfl) ?_
    refine lv_iload hx hb dX2_goOn_45 (lv_at hl 0 rfl) ?_
    obtain ⟨r_11, σ_12, h_13, h⟩ := bd_at h
    refine q_afterI hw (q_runS C hw hl.1 (As := [.int r_3]) (rest := [.ref (E.2.1 (7))]) (m_X3_heatOf l E r_3 σ_9 r_11 σ_12 h_13) yq_X3_heatOf kw_713 ⟨Nat.le_of_ble_eq_true rfl, Nat.le_of_ble_eq_true rfl⟩ rfl (Nat.le_of_ble_eq_true rfl) ⟨Nat.zero_le _, Nat.zero_le _⟩ dX2_goOn_47) (fun H locs hw => ?_)
    obtain ⟨σ_14, eσ_14, h⟩ := lt_at h
    refine pf_2_2 C hw tC_7 kw_150 eσ_14 dX2_goOn_50 (fun H locs hw => ?_)
    refine lv_aload_n hx hb dX2_goOn_53 rfl (lv_at hl 1 rfl) ?_
    refine lv_iload hx hb dX2_goOn_54 (lv_at hl 0 rfl) ?_
    obtain ⟨r_15, σ_16, h_17, h⟩ := bd_at h
    refine q_afterI hw (q_runS C hw hl.1 (As := [.int r_3]) (rest := [.ref (E.2.1 (7))]) (m_X3_dullOf l E r_3 σ_14 r_15 σ_16 h_17) yq_X3_dullOf kw_714 ⟨Nat.le_of_ble_eq_true rfl, Nat.le_of_ble_eq_true rfl⟩ rfl (Nat.le_of_ble_eq_true rfl) ⟨Nat.zero_le _, Nat.zero_le _⟩ dX2_goOn_56) (fun H locs hw => ?_)
    obtain ⟨σ_18, eσ_18, h⟩ := lt_at h
    refine pf_2_3 C hw tC_7 kw_152 eσ_18 dX2_goOn_59 (fun H locs hw => ?_)
    refine lv_aload_n hx hb dX2_goOn_62 rfl (lv_at hl 1 rfl) ?_
    refine lv_dup hx hb dX2_goOn_63 rfl ?_
    refine gf_2_4 C hw tC_7 kw_154 dX2_goOn_64 ?_
    refine lv_iload hx hb dX2_goOn_67 (lv_at hl 0 rfl) ?_
    obtain ⟨r_19, σ_20, h_21, h⟩ := bd_at h
    refine q_afterI hw (q_runS C hw hl.1 (As := [.int r_3]) (rest := [.int (gI σ_18 7 4), .ref (E.2.1 (7))]) (m_X3_mealOf l E r_3 σ_18 r_19 σ_20 h_21) yq_X3_mealOf kw_715 ⟨Nat.le_of_ble_eq_true rfl, Nat.le_of_ble_eq_true rfl⟩ rfl (Nat.le_of_ble_eq_true rfl) ⟨Nat.zero_le _, Nat.zero_le _⟩ dX2_goOn_69) (fun H locs hw => ?_)
    refine lv_iadd hx hb dX2_goOn_72 ?_
    obtain ⟨σ_22, eσ_22, h⟩ := lt_at h
    refine pf_2_4 C hw tC_7 kw_154 eσ_22 dX2_goOn_73 (fun H locs hw => ?_)
    refine lv_iload hx hb dX2_goOn_76 (lv_at hl 0 rfl) ?_
    obtain ⟨r_23, σ_24, h_25, h⟩ := bd_at h
    refine q_afterI hw (q_runS C hw hl.1 (As := [.int r_3]) (rest := []) (m_X3_gainOf l E r_3 σ_22 r_23 σ_24 h_25) yq_X3_gainOf kw_716 ⟨Nat.le_of_ble_eq_true rfl, Nat.le_of_ble_eq_true rfl⟩ rfl (Nat.le_of_ble_eq_true rfl) ⟨Nat.zero_le _, Nat.zero_le _⟩ dX2_goOn_78) (fun H locs hw => ?_)
    obtain ⟨rfl, rfl⟩ := ret_at h
    exact q_iret C hw dX2_goOn_81
  · replace h := ie_at h c_2
    refine lv_iconst (v := (-1)) hx hb dX2_goOn_17 (by decide) ?_
    obtain ⟨rfl, rfl⟩ := ret_at h
    exact q_iret C hw dX2_goOn_18
def f_X2_begin (p1 : Int32) (σ : Mem) : Option Mem :=
  lt (sI σ 7 0 p1) fun σ_1 =>
  lt (sI σ_1 7 1 (0 : Int32)) fun σ_2 =>
  lt (sI σ_2 7 2 (0 : Int32)) fun σ_3 =>
  lt (sI σ_3 7 3 (0 : Int32)) fun σ_4 =>
  lt (sI σ_4 7 4 (0 : Int32)) fun σ_5 =>
  lt (sI σ_5 7 5 (0 : Int32)) fun σ_6 =>
  some σ_6
set_option maxHeartbeats 4000000 in
set_option maxRecDepth 100000 in
theorem m_X2_begin (l : Launch) (E : EV) (p1 : Int32) (σ : Mem) (τ : Mem) (h : f_X2_begin p1 σ = some τ) : MV TC l E yX2_begin cX2_begin 2 none 0 0 [.ref (E.2.1 (7)), .int p1] σ τ := by
  refine mt_start RX2 (by decide +kernel) rfl (Nat.le_of_ble_eq_true rfl) (fun p e s m args below meth c ls C hw hl => ?_)
  replace hl : lv_has ls 2 [(0, .ref (E.2.1 (7))), (1, .int p1)] := hl
  obtain ⟨hx, hb, hml, hown, hts, hK, hSt, hlk, hr⟩ := id C
  unfold f_X2_begin at h
  refine lv_aload_n hx hb dX2_begin_0 rfl (lv_at hl 0 rfl) ?_
  refine lv_iload_n hx hb dX2_begin_1 rfl (lv_at hl 1 rfl) ?_
  obtain ⟨σ_1, eσ_1, h⟩ := lt_at h
  refine pf_2_0 C hw tC_7 kw_146 eσ_1 dX2_begin_2 (fun H locs hw => ?_)
  refine lv_aload_n hx hb dX2_begin_5 rfl (lv_at hl 0 rfl) ?_
  refine lv_iconst (v := 0) hx hb dX2_begin_6 (by decide) ?_
  obtain ⟨σ_2, eσ_2, h⟩ := lt_at h
  refine pf_2_1 C hw tC_7 kw_148 eσ_2 dX2_begin_7 (fun H locs hw => ?_)
  refine lv_aload_n hx hb dX2_begin_10 rfl (lv_at hl 0 rfl) ?_
  refine lv_iconst (v := 0) hx hb dX2_begin_11 (by decide) ?_
  obtain ⟨σ_3, eσ_3, h⟩ := lt_at h
  refine pf_2_2 C hw tC_7 kw_150 eσ_3 dX2_begin_12 (fun H locs hw => ?_)
  refine lv_aload_n hx hb dX2_begin_15 rfl (lv_at hl 0 rfl) ?_
  refine lv_iconst (v := 0) hx hb dX2_begin_16 (by decide) ?_
  obtain ⟨σ_4, eσ_4, h⟩ := lt_at h
  refine pf_2_3 C hw tC_7 kw_152 eσ_4 dX2_begin_17 (fun H locs hw => ?_)
  refine lv_aload_n hx hb dX2_begin_20 rfl (lv_at hl 0 rfl) ?_
  refine lv_iconst (v := 0) hx hb dX2_begin_21 (by decide) ?_
  obtain ⟨σ_5, eσ_5, h⟩ := lt_at h
  refine pf_2_4 C hw tC_7 kw_154 eσ_5 dX2_begin_22 (fun H locs hw => ?_)
  refine lv_aload_n hx hb dX2_begin_25 rfl (lv_at hl 0 rfl) ?_
  refine lv_iconst (v := 0) hx hb dX2_begin_26 (by decide) ?_
  obtain ⟨σ_6, eσ_6, h⟩ := lt_at h
  refine pf_2_5 C hw tC_7 kw_156 (by decide) eσ_6 dX2_begin_27 (fun H locs hw => ?_)
  cases h
  exact q_vret C hw dX2_begin_30
def f_X3_isBurnt (p0 : Int32) (σ : Mem) : Option (Int32 × Mem) :=
  if (p0 &&& (33554432 : Int32)) = 0 then
    (some ((0 : Int32), σ))
  else
    some ((1 : Int32), σ)
set_option maxHeartbeats 4000000 in
set_option maxRecDepth 100000 in
theorem m_X3_isBurnt (l : Launch) (E : EV) (p0 : Int32) (σ : Mem) (rr : Int32) (τ : Mem) (h : f_X3_isBurnt p0 σ = some (rr, τ)) : MI TC l E yX3_isBurnt cX3_isBurnt 1 (some .boolean) 0 0 [.int p0] σ rr τ := by
  refine mt_start RX3 (by decide +kernel) rfl (Nat.le_of_ble_eq_true rfl) (fun p e s m args below meth c ls C hw hl => ?_)
  replace hl : lv_has ls 1 [(0, .int p0)] := hl
  obtain ⟨hx, hb, hml, hown, hts, hK, hSt, hlk, hr⟩ := id C
  unfold f_X3_isBurnt at h
  refine lv_iload_n hx hb dX3_isBurnt_0 rfl (lv_at hl 0 rfl) ?_
  refine lv_ldc hx hb hown (hts _ kw_641) dX3_isBurnt_1 ?_
  refine lv_iand hx hb dX3_isBurnt_3 ?_
  refine lv_if_eq (tgt := 11) hx hb dX3_isBurnt_4 (by decide) (fun c_1 => ?_) (fun c_1 => ?_)
  · replace h := it_at h c_1
    refine lv_iconst (v := 0) hx hb dX3_isBurnt_11 (by decide) ?_
    obtain ⟨rfl, rfl⟩ := ret_at h
    exact q_zret C (by decide) hw dX3_isBurnt_12
  · replace h := ie_at h c_1
    refine lv_iconst (v := 1) hx hb dX3_isBurnt_7 (by decide) ?_
    refine lv_goto (tgt := 12) hx hb dX3_isBurnt_8 (by decide) ?_
    obtain ⟨rfl, rfl⟩ := ret_at h
    exact q_zret C (by decide) hw dX3_isBurnt_12
def f_X1_mostMeal_6 (o : Nat) (k6 : Int32 → Int32 → Int32 → Int32 → Int32 → Mem → Option (Int32 × Mem)) (x1 : Int32) (x2 : Int32) (x3 : Int32) (x4 : Int32) (x5 : Int32) (σ : Mem) : Option (Int32 × Mem) :=
  if (8 : Int32) ≤ x5 then
    (some (x4, σ))
  else
    bd (f_X3_hourBy o x1 x5 x2 x3 σ) fun r_2 σ_3 =>
    bd (f_X3_mealOf r_2 σ_3) fun r_5 σ_6 =>
    lt (imx x4 r_5) fun x4_8 =>
    lt (x5 + (1 : Int32)) fun x5_9 =>
    k6 x1 x2 x3 x4_8 x5_9 σ_6
def f_X1_mostMeal (o : Nat) (p1 : Int32) (p2 : Int32) (p3 : Int32) (σ : Mem) : Option (Int32 × Mem) :=
  fx6 (f_X1_mostMeal_6 o) FU p1 p2 p3 (0 : Int32) (0 : Int32) σ
set_option maxHeartbeats 4000000 in
set_option maxRecDepth 100000 in
theorem w_X1_mostMeal_6 {p : Program} {l : Launch} {e : Env} {s : State} {m : MethodId} {args : Array Value} {below : List Frame} {meth : Method} {c : Code} {E : EV} {rr : Int32} {τ : Mem} (C : Cx E p s m args meth c cX1_mostMeal 6 (some .int) RX1) (o : Nat) (ho : MO o) : ∀ (n : Nat) (x1 : Int32) (x2 : Int32) (x3 : Int32) (x4 : Int32) (x5 : Int32) (σ : Mem) (H : Heap) (locs : List Loc) (ls : Array Slot) (hw : Wd TC E σ s H locs) (hl : lv_has ls 6 [(0, .ref (E.2.1 o)), (1, .int x1), (2, .int x2), (3, .int x3), (4, .int x4), (5, .int x5)]) (h : fx6 (f_X1_mostMeal_6 o) n x1 x2 x3 x4 x5 σ = some (rr, τ)), W p l e { frames := 3, cells := 0, slots := 0, locals := 79 } s m args below meth c H locs 0 0 (MQ below (QI TC E rr τ) args s 0 0 E.2.2.1) (F0 m 6 ls []) := by
  obtain ⟨hx, hb, hml, hown, hts, hK, hSt, hlk, hr⟩ := id C
  intro n
  induction n with
  | zero =>
    intro x1 x2 x3 x4 x5 σ H locs ls hw hl h
    have h : none = some (rr, τ) := h
    cases h
  | succ n hk6 =>
    intro x1 x2 x3 x4 x5 σ H locs ls hw hl h
    replace h : f_X1_mostMeal_6 o (fx6 (f_X1_mostMeal_6 o) n) x1 x2 x3 x4 x5 σ = some (rr, τ) := h
    unfold f_X1_mostMeal_6 at h
    refine lv_iload hx hb dX1_mostMeal_6 (lv_at hl 5 rfl) ?_
    refine lv_bipush (v := 8) hx hb dX1_mostMeal_8 (by decide) ?_
    refine lv_icmp_ge (tgt := 38) hx hb dX1_mostMeal_10 (by decide) (fun c_1 => ?_) (fun c_1 => ?_)
    · replace h := it_at h c_1
      refine lv_iload hx hb dX1_mostMeal_38 (lv_at hl 4 rfl) ?_
      obtain ⟨rfl, rfl⟩ := ret_at h
      exact q_iret C hw dX1_mostMeal_40
    · replace h := ie_at h c_1
      refine lv_iload hx hb dX1_mostMeal_13 (lv_at hl 4 rfl) ?_
      refine lv_aload_n hx hb dX1_mostMeal_15 rfl (lv_at hl 0 rfl) ?_
      refine lv_iload_n hx hb dX1_mostMeal_16 rfl (lv_at hl 1 rfl) ?_
      refine lv_iload hx hb dX1_mostMeal_17 (lv_at hl 5 rfl) ?_
      refine lv_iload_n hx hb dX1_mostMeal_19 rfl (lv_at hl 2 rfl) ?_
      refine lv_iload_n hx hb dX1_mostMeal_20 rfl (lv_at hl 3 rfl) ?_
      obtain ⟨r_2, σ_3, h_4, h⟩ := bd_at h
      refine q_afterI hw (q_runV C hw hl.1 (As := [.int x1, .int x5, .int x2, .int x3]) (rest := [.int x4]) (m_X3_hourBy l E o ho x1 x5 x2 x3 σ r_2 σ_3 h_4) yq_X3_hourBy (mo_T ho).1 rfl rfl kw_858 ⟨Nat.le_of_ble_eq_true rfl, Nat.le_of_ble_eq_true rfl⟩ rfl (Nat.le_of_ble_eq_true rfl) ⟨Nat.zero_le _, Nat.zero_le _⟩ dX1_mostMeal_21) (fun H locs hw => ?_)
      obtain ⟨r_5, σ_6, h_7, h⟩ := bd_at h
      refine q_afterI hw (q_runS C hw hl.1 (As := [.int r_2]) (rest := [.int x4]) (m_X3_mealOf l E r_2 σ_3 r_5 σ_6 h_7) yq_X3_mealOf kw_861 ⟨Nat.le_of_ble_eq_true rfl, Nat.le_of_ble_eq_true rfl⟩ rfl (Nat.le_of_ble_eq_true rfl) ⟨Nat.zero_le _, Nat.zero_le _⟩ dX1_mostMeal_24) (fun H locs hw => ?_)
      refine q_max C hl.1 kw_865 (Nat.le_of_ble_eq_true rfl) (Nat.le_of_ble_eq_true rfl) (Nat.le_of_ble_eq_true rfl) ⟨Nat.zero_le _, Nat.zero_le _⟩ dX1_mostMeal_27 ?_
      obtain ⟨x4_8, ex4_8, h⟩ := lt_at h
      refine q_top ex4_8 ?_
      refine lv_istore (lv' := [(4, .int x4_8), (0, .ref (E.2.1 o)), (1, .int x1), (2, .int x2), (3, .int x3), (5, .int x5)]) hx hb dX1_mostMeal_30 hl (by decide) rfl (fun ls hl => ?_)
      obtain ⟨x5_9, ex5_9, h⟩ := lt_at h
      refine lv_iinc (v := x5_9) (lv' := [(5, .int x5_9), (4, .int x4_8), (0, .ref (E.2.1 o)), (1, .int x1), (2, .int x2), (3, .int x3)]) hx hb dX1_mostMeal_32 hl (k := 5) rfl (by rw [ex5_9]; rfl) (by decide) rfl (fun ls hl => ?_)
      refine lv_goto (tgt := 6) hx hb dX1_mostMeal_35 (by decide) ?_
      exact hk6 _ _ _ _ _ _ _ _ _ hw (lv_sub hl [2, 3, 4, 5, 1, 0] rfl) h
set_option maxHeartbeats 4000000 in
set_option maxRecDepth 100000 in
theorem m_X1_mostMeal (l : Launch) (E : EV) (o : Nat) (ho : MO o) (p1 : Int32) (p2 : Int32) (p3 : Int32) (σ : Mem) (rr : Int32) (τ : Mem) (h : f_X1_mostMeal o p1 p2 p3 σ = some (rr, τ)) : MI TC l E yX1_mostMeal cX1_mostMeal 6 (some .int) 3 79 [.ref (E.2.1 o), .int p1, .int p2, .int p3] σ rr τ := by
  refine mt_start RX1 (by decide +kernel) rfl (Nat.le_of_ble_eq_true rfl) (fun p e s m args below meth c ls C hw hl => ?_)
  replace hl : lv_has ls 6 [(0, .ref (E.2.1 o)), (1, .int p1), (2, .int p2), (3, .int p3)] := hl
  obtain ⟨hx, hb, hml, hown, hts, hK, hSt, hlk, hr⟩ := id C
  unfold f_X1_mostMeal at h
  refine lv_iconst (v := 0) hx hb dX1_mostMeal_0 (by decide) ?_
  refine lv_istore (lv' := [(4, .int (0 : Int32)), (0, .ref (E.2.1 o)), (1, .int p1), (2, .int p2), (3, .int p3)]) hx hb dX1_mostMeal_1 hl (by decide) rfl (fun ls hl => ?_)
  refine lv_iconst (v := 0) hx hb dX1_mostMeal_3 (by decide) ?_
  refine lv_istore (lv' := [(5, .int (0 : Int32)), (4, .int (0 : Int32)), (0, .ref (E.2.1 o)), (1, .int p1), (2, .int p2), (3, .int p3)]) hx hb dX1_mostMeal_4 hl (by decide) rfl (fun ls hl => ?_)
  exact w_X1_mostMeal_6 C o ho _ _ _ _ _ _ _ _ _ _ hw (lv_sub hl [2, 3, 4, 5, 1, 0] rfl) h
def f_X1_judge_171 (o : Nat) (k30 : Int32 → Int32 → Int32 → Int32 → Int32 → Int32 → Int32 → Int32 → Int32 → Int32 → Mem → Option (Int32 × Mem)) (x4 : Int32) (x7 : Int32) (x8 : Int32) (x9 : Int32) (x10 : Int32) (x11 : Int32) (x12 : Int32) (x13 : Int32) (x14 : Int32) (σ : Mem) : Option (Int32 × Mem) :=
  bd (f_X3_heatOf x14 σ) fun r_36 σ_37 =>
  bd (f_X3_dullOf x14 σ_37) fun r_39 σ_40 =>
  lt (x13 + (1 : Int32)) fun x13_42 =>
  k30 x4 r_36 r_39 x7 x8 x9 x10 x11 x12 x13_42 σ_40
def f_X1_judge_156 (o : Nat) (k30 : Int32 → Int32 → Int32 → Int32 → Int32 → Int32 → Int32 → Int32 → Int32 → Int32 → Mem → Option (Int32 × Mem)) (x4 : Int32) (x7 : Int32) (x8 : Int32) (x9 : Int32) (x10 : Int32) (x11 : Int32) (x12 : Int32) (x13 : Int32) (x14 : Int32) (x15 : Int32) (σ : Mem) : Option (Int32 × Mem) :=
  if x15 ≤ x11 then
    (f_X1_judge_171 o k30 x4 x7 x8 x9 x10 x11 x12 x13 x14 σ)
  else
    f_X1_judge_171 o k30 x4 x7 x8 x9 x13 x15 x12 x13 x14 σ
def f_X1_judge_107 (o : Nat) (k30 : Int32 → Int32 → Int32 → Int32 → Int32 → Int32 → Int32 → Int32 → Int32 → Int32 → Mem → Option (Int32 × Mem)) (x4 : Int32) (x5 : Int32) (x6 : Int32) (x7 : Int32) (x8 : Int32) (x9 : Int32) (x10 : Int32) (x11 : Int32) (x12 : Int32) (x13 : Int32) (x14 : Int32) (σ : Mem) : Option (Int32 × Mem) :=
  bd (f_X3_mealOf x14 σ) fun r_21 σ_22 =>
  lt (x8 + r_21) fun x8_24 =>
  gd (ib x13 10) <|
  bd (f_X1_mostMeal o (gI σ_22 14 x13.toNatClampNeg) x5 x6 σ_22) fun r_26 σ_27 =>
  bd (f_X3_mealOf x14 σ_27) fun r_29 σ_30 =>
  lt (r_26 - r_29) fun x15_32 =>
  if x9 = (-5 : Int32) then
    (if x15_32 ≤ 0 then
      (f_X1_judge_156 o k30 x4 x7 x8_24 x9 x10 x11 x12 x13 x14 x15_32 σ_30)
    else
      f_X1_judge_156 o k30 x4 x7 x8_24 x13 x10 x11 x12 x13 x14 x15_32 σ_30)
  else
    f_X1_judge_156 o k30 x4 x7 x8_24 x9 x10 x11 x12 x13 x14 x15_32 σ_30
def f_X1_judge_103 (o : Nat) (k30 : Int32 → Int32 → Int32 → Int32 → Int32 → Int32 → Int32 → Int32 → Int32 → Int32 → Mem → Option (Int32 × Mem)) (x4 : Int32) (x5 : Int32) (x6 : Int32) (x8 : Int32) (x9 : Int32) (x10 : Int32) (x11 : Int32) (x12 : Int32) (x13 : Int32) (x14 : Int32) (σ : Mem) : Option (Int32 × Mem) :=
  f_X1_judge_107 o k30 x4 x5 x6 x13 x8 x9 x10 x11 x12 x13 x14 σ
def f_X1_judge_81 (o : Nat) (k30 : Int32 → Int32 → Int32 → Int32 → Int32 → Int32 → Int32 → Int32 → Int32 → Int32 → Mem → Option (Int32 × Mem)) (x4 : Int32) (x5 : Int32) (x6 : Int32) (x7 : Int32) (x8 : Int32) (x9 : Int32) (x10 : Int32) (x11 : Int32) (x13 : Int32) (x14 : Int32) (s0 : Int32) (σ : Mem) : Option (Int32 × Mem) :=
  if x7 = (-5 : Int32) then
    (if s0 = 0 then
      (f_X1_judge_103 o k30 x4 x5 x6 x8 x9 x10 x11 s0 x13 x14 σ)
    else
      bd (f_X3_isBurnt x14 σ) fun r_17 σ_18 =>
      if r_17 = 0 then
        (f_X1_judge_107 o k30 x4 x5 x6 x7 x8 x9 x10 x11 s0 x13 x14 σ_18)
      else
        f_X1_judge_103 o k30 x4 x5 x6 x8 x9 x10 x11 s0 x13 x14 σ_18)
  else
    f_X1_judge_107 o k30 x4 x5 x6 x7 x8 x9 x10 x11 s0 x13 x14 σ
def f_X1_judge_191 (o : Nat) (x4 : Int32) (x7 : Int32) (x8 : Int32) (x9 : Int32) (x10 : Int32) (σ : Mem) : Option (Int32 × Mem) :=
  if x4 = (0 : Int32) then
    (some (x7, σ))
  else
  if x4 = (1 : Int32) then
    (some (x8, σ))
  else
  if x4 = (2 : Int32) then
    (some (x9, σ))
  else
  some (x10, σ)
def f_X1_judge_30 (o : Nat) (k30 : Int32 → Int32 → Int32 → Int32 → Int32 → Int32 → Int32 → Int32 → Int32 → Int32 → Mem → Option (Int32 × Mem)) (x4 : Int32) (x5 : Int32) (x6 : Int32) (x7 : Int32) (x8 : Int32) (x9 : Int32) (x10 : Int32) (x11 : Int32) (x12 : Int32) (x13 : Int32) (σ : Mem) : Option (Int32 × Mem) :=
  if (gI σ 13 2) ≤ x13 then
    (f_X1_judge_191 o x4 x7 x8 x9 x10 σ)
  else
    if x12 = 0 then
      (f_X1_judge_191 o x4 x7 x8 x9 x10 σ)
    else
      gd (ib x13 10) <|
      gd (ib x13 10) <|
      bd (f_X3_hourBy o (gI σ 14 x13.toNatClampNeg) (gI σ 15 x13.toNatClampNeg) x5 x6 σ) fun r_5 σ_6 =>
      bd (f_X3_isAway r_5 σ_6) fun r_8 σ_9 =>
      if r_8 = 0 then
        (f_X1_judge_81 o k30 x4 x5 x6 x7 x8 x9 x10 x11 x13 r_5 (1 : Int32) σ_9)
      else
        f_X1_judge_81 o k30 x4 x5 x6 x7 x8 x9 x10 x11 x13 r_5 (0 : Int32) σ_9
def f_X1_judge (o : Nat) (p2 : Int32) (p3 : Int32) (p4 : Int32) (σ : Mem) : Option (Int32 × Mem) :=
  fx11 (f_X1_judge_30 o) FU p4 p2 p3 (-5 : Int32) (0 : Int32) (-5 : Int32) (-5 : Int32) (0 : Int32) (1 : Int32) (0 : Int32) σ
set_option maxHeartbeats 4000000 in
set_option maxRecDepth 100000 in
theorem w_X1_judge_171 {p : Program} {l : Launch} {e : Env} {s : State} {m : MethodId} {args : Array Value} {below : List Frame} {meth : Method} {c : Code} {E : EV} {rr : Int32} {τ : Mem} (C : Cx E p s m args meth c cX1_judge 16 (some .int) RX1) (o : Nat) (ho : MO o) (k30 : Int32 → Int32 → Int32 → Int32 → Int32 → Int32 → Int32 → Int32 → Int32 → Int32 → Mem → Option (Int32 × Mem)) (hk30 : ∀ (x4 : Int32) (x5 : Int32) (x6 : Int32) (x7 : Int32) (x8 : Int32) (x9 : Int32) (x10 : Int32) (x11 : Int32) (x12 : Int32) (x13 : Int32) (σ : Mem) (H : Heap) (locs : List Loc) (ls : Array Slot) (hw : Wd TC E σ s H locs) (hl : lv_has ls 16 [(0, .ref (E.2.1 (13))), (1, .ref (E.2.1 o)), (4, .int x4), (5, .int x5), (6, .int x6), (7, .int x7), (8, .int x8), (9, .int x9), (10, .int x10), (11, .int x11), (12, .int x12), (13, .int x13)]) (h : k30 x4 x5 x6 x7 x8 x9 x10 x11 x12 x13 σ = some (rr, τ)), W p l e { frames := 4, cells := 0, slots := 0, locals := 104 } s m args below meth c H locs 0 0 (MQ below (QI TC E rr τ) args s 0 0 E.2.2.1) (F0 m 30 ls [])) : ∀ (x4 : Int32) (x7 : Int32) (x8 : Int32) (x9 : Int32) (x10 : Int32) (x11 : Int32) (x12 : Int32) (x13 : Int32) (x14 : Int32) (σ : Mem) (H : Heap) (locs : List Loc) (ls : Array Slot) (hw : Wd TC E σ s H locs) (hl : lv_has ls 16 [(0, .ref (E.2.1 (13))), (1, .ref (E.2.1 o)), (4, .int x4), (7, .int x7), (8, .int x8), (9, .int x9), (10, .int x10), (11, .int x11), (12, .int x12), (13, .int x13), (14, .int x14)]) (h : f_X1_judge_171 o k30 x4 x7 x8 x9 x10 x11 x12 x13 x14 σ = some (rr, τ)), W p l e { frames := 4, cells := 0, slots := 0, locals := 104 } s m args below meth c H locs 0 0 (MQ below (QI TC E rr τ) args s 0 0 E.2.2.1) (F0 m 171 ls []) := by
  obtain ⟨hx, hb, hml, hown, hts, hK, hSt, hlk, hr⟩ := id C
  intro x4 x7 x8 x9 x10 x11 x12 x13 x14 σ H locs ls hw hl h
  unfold f_X1_judge_171 at h
  refine lv_iload hx hb dX1_judge_171 (lv_at hl 10 rfl) ?_
  obtain ⟨r_36, σ_37, h_38, h⟩ := bd_at h
  refine q_afterI hw (q_runS C hw hl.1 (As := [.int x14]) (rest := []) (m_X3_heatOf l E x14 σ r_36 σ_37 h_38) yq_X3_heatOf kw_866 ⟨Nat.le_of_ble_eq_true rfl, Nat.le_of_ble_eq_true rfl⟩ rfl (Nat.le_of_ble_eq_true rfl) ⟨Nat.zero_le _, Nat.zero_le _⟩ dX1_judge_173) (fun H locs hw => ?_)
  refine lv_istore (lv' := [(5, .int r_36), (0, .ref (E.2.1 (13))), (1, .ref (E.2.1 o)), (4, .int x4), (7, .int x7), (8, .int x8), (9, .int x9), (10, .int x10), (11, .int x11), (12, .int x12), (13, .int x13), (14, .int x14)]) hx hb dX1_judge_176 hl (by decide) rfl (fun ls hl => ?_)
  refine lv_iload hx hb dX1_judge_178 (lv_at hl 11 rfl) ?_
  obtain ⟨r_39, σ_40, h_41, h⟩ := bd_at h
  refine q_afterI hw (q_runS C hw hl.1 (As := [.int x14]) (rest := []) (m_X3_dullOf l E x14 σ_37 r_39 σ_40 h_41) yq_X3_dullOf kw_867 ⟨Nat.le_of_ble_eq_true rfl, Nat.le_of_ble_eq_true rfl⟩ rfl (Nat.le_of_ble_eq_true rfl) ⟨Nat.zero_le _, Nat.zero_le _⟩ dX1_judge_180) (fun H locs hw => ?_)
  refine lv_istore (lv' := [(6, .int r_39), (5, .int r_36), (0, .ref (E.2.1 (13))), (1, .ref (E.2.1 o)), (4, .int x4), (7, .int x7), (8, .int x8), (9, .int x9), (10, .int x10), (11, .int x11), (12, .int x12), (13, .int x13), (14, .int x14)]) hx hb dX1_judge_183 hl (by decide) rfl (fun ls hl => ?_)
  obtain ⟨x13_42, ex13_42, h⟩ := lt_at h
  refine lv_iinc (v := x13_42) (lv' := [(13, .int x13_42), (6, .int r_39), (5, .int r_36), (0, .ref (E.2.1 (13))), (1, .ref (E.2.1 o)), (4, .int x4), (7, .int x7), (8, .int x8), (9, .int x9), (10, .int x10), (11, .int x11), (12, .int x12), (14, .int x14)]) hx hb dX1_judge_185 hl (k := 11) rfl (by rw [ex13_42]; rfl) (by decide) rfl (fun ls hl => ?_)
  refine lv_goto (tgt := 30) hx hb dX1_judge_188 (by decide) ?_
  exact hk30 _ _ _ _ _ _ _ _ _ _ _ _ _ _ hw (lv_sub hl [3, 4, 5, 2, 1, 6, 7, 8, 9, 10, 11, 0] rfl) h
set_option maxHeartbeats 4000000 in
set_option maxRecDepth 100000 in
theorem w_X1_judge_156 {p : Program} {l : Launch} {e : Env} {s : State} {m : MethodId} {args : Array Value} {below : List Frame} {meth : Method} {c : Code} {E : EV} {rr : Int32} {τ : Mem} (C : Cx E p s m args meth c cX1_judge 16 (some .int) RX1) (o : Nat) (ho : MO o) (k30 : Int32 → Int32 → Int32 → Int32 → Int32 → Int32 → Int32 → Int32 → Int32 → Int32 → Mem → Option (Int32 × Mem)) (hk30 : ∀ (x4 : Int32) (x5 : Int32) (x6 : Int32) (x7 : Int32) (x8 : Int32) (x9 : Int32) (x10 : Int32) (x11 : Int32) (x12 : Int32) (x13 : Int32) (σ : Mem) (H : Heap) (locs : List Loc) (ls : Array Slot) (hw : Wd TC E σ s H locs) (hl : lv_has ls 16 [(0, .ref (E.2.1 (13))), (1, .ref (E.2.1 o)), (4, .int x4), (5, .int x5), (6, .int x6), (7, .int x7), (8, .int x8), (9, .int x9), (10, .int x10), (11, .int x11), (12, .int x12), (13, .int x13)]) (h : k30 x4 x5 x6 x7 x8 x9 x10 x11 x12 x13 σ = some (rr, τ)), W p l e { frames := 4, cells := 0, slots := 0, locals := 104 } s m args below meth c H locs 0 0 (MQ below (QI TC E rr τ) args s 0 0 E.2.2.1) (F0 m 30 ls [])) : ∀ (x4 : Int32) (x7 : Int32) (x8 : Int32) (x9 : Int32) (x10 : Int32) (x11 : Int32) (x12 : Int32) (x13 : Int32) (x14 : Int32) (x15 : Int32) (σ : Mem) (H : Heap) (locs : List Loc) (ls : Array Slot) (hw : Wd TC E σ s H locs) (hl : lv_has ls 16 [(0, .ref (E.2.1 (13))), (1, .ref (E.2.1 o)), (4, .int x4), (7, .int x7), (8, .int x8), (9, .int x9), (10, .int x10), (11, .int x11), (12, .int x12), (13, .int x13), (14, .int x14), (15, .int x15)]) (h : f_X1_judge_156 o k30 x4 x7 x8 x9 x10 x11 x12 x13 x14 x15 σ = some (rr, τ)), W p l e { frames := 4, cells := 0, slots := 0, locals := 104 } s m args below meth c H locs 0 0 (MQ below (QI TC E rr τ) args s 0 0 E.2.2.1) (F0 m 156 ls []) := by
  obtain ⟨hx, hb, hml, hown, hts, hK, hSt, hlk, hr⟩ := id C
  intro x4 x7 x8 x9 x10 x11 x12 x13 x14 x15 σ H locs ls hw hl h
  unfold f_X1_judge_156 at h
  refine lv_iload hx hb dX1_judge_156 (lv_at hl 11 rfl) ?_
  refine lv_iload hx hb dX1_judge_158 (lv_at hl 7 rfl) ?_
  refine lv_icmp_le (tgt := 171) hx hb dX1_judge_160 (by decide) (fun c_35 => ?_) (fun c_35 => ?_)
  · replace h := it_at h c_35
    exact w_X1_judge_171 C o ho _ hk30 _ _ _ _ _ _ _ _ _ _ _ _ _ hw (lv_sub hl [0, 1, 2, 3, 4, 5, 6, 7, 8, 9, 10] rfl) h
  · replace h := ie_at h c_35
    refine lv_iload hx hb dX1_judge_163 (lv_at hl 11 rfl) ?_
    refine lv_istore (lv' := [(11, .int x15), (0, .ref (E.2.1 (13))), (1, .ref (E.2.1 o)), (4, .int x4), (7, .int x7), (8, .int x8), (9, .int x9), (10, .int x10), (12, .int x12), (13, .int x13), (14, .int x14), (15, .int x15)]) hx hb dX1_judge_165 hl (by decide) rfl (fun ls hl => ?_)
    refine lv_iload hx hb dX1_judge_167 (lv_at hl 9 rfl) ?_
    refine lv_istore (lv' := [(10, .int x13), (11, .int x15), (0, .ref (E.2.1 (13))), (1, .ref (E.2.1 o)), (4, .int x4), (7, .int x7), (8, .int x8), (9, .int x9), (12, .int x12), (13, .int x13), (14, .int x14), (15, .int x15)]) hx hb dX1_judge_169 hl (by decide) rfl (fun ls hl => ?_)
    exact w_X1_judge_171 C o ho _ hk30 _ _ _ _ _ _ _ _ _ _ _ _ _ hw (lv_sub hl [2, 3, 4, 5, 6, 7, 0, 1, 8, 9, 10] rfl) h
set_option maxHeartbeats 4000000 in
set_option maxRecDepth 100000 in
theorem w_X1_judge_107 {p : Program} {l : Launch} {e : Env} {s : State} {m : MethodId} {args : Array Value} {below : List Frame} {meth : Method} {c : Code} {E : EV} {rr : Int32} {τ : Mem} (C : Cx E p s m args meth c cX1_judge 16 (some .int) RX1) (o : Nat) (ho : MO o) (k30 : Int32 → Int32 → Int32 → Int32 → Int32 → Int32 → Int32 → Int32 → Int32 → Int32 → Mem → Option (Int32 × Mem)) (hk30 : ∀ (x4 : Int32) (x5 : Int32) (x6 : Int32) (x7 : Int32) (x8 : Int32) (x9 : Int32) (x10 : Int32) (x11 : Int32) (x12 : Int32) (x13 : Int32) (σ : Mem) (H : Heap) (locs : List Loc) (ls : Array Slot) (hw : Wd TC E σ s H locs) (hl : lv_has ls 16 [(0, .ref (E.2.1 (13))), (1, .ref (E.2.1 o)), (4, .int x4), (5, .int x5), (6, .int x6), (7, .int x7), (8, .int x8), (9, .int x9), (10, .int x10), (11, .int x11), (12, .int x12), (13, .int x13)]) (h : k30 x4 x5 x6 x7 x8 x9 x10 x11 x12 x13 σ = some (rr, τ)), W p l e { frames := 4, cells := 0, slots := 0, locals := 104 } s m args below meth c H locs 0 0 (MQ below (QI TC E rr τ) args s 0 0 E.2.2.1) (F0 m 30 ls [])) : ∀ (x4 : Int32) (x5 : Int32) (x6 : Int32) (x7 : Int32) (x8 : Int32) (x9 : Int32) (x10 : Int32) (x11 : Int32) (x12 : Int32) (x13 : Int32) (x14 : Int32) (σ : Mem) (H : Heap) (locs : List Loc) (ls : Array Slot) (hw : Wd TC E σ s H locs) (hl : lv_has ls 16 [(0, .ref (E.2.1 (13))), (1, .ref (E.2.1 o)), (4, .int x4), (5, .int x5), (6, .int x6), (7, .int x7), (8, .int x8), (9, .int x9), (10, .int x10), (11, .int x11), (12, .int x12), (13, .int x13), (14, .int x14)]) (h : f_X1_judge_107 o k30 x4 x5 x6 x7 x8 x9 x10 x11 x12 x13 x14 σ = some (rr, τ)), W p l e { frames := 4, cells := 0, slots := 0, locals := 104 } s m args below meth c H locs 0 0 (MQ below (QI TC E rr τ) args s 0 0 E.2.2.1) (F0 m 107 ls []) := by
  obtain ⟨hx, hb, hml, hown, hts, hK, hSt, hlk, hr⟩ := id C
  intro x4 x5 x6 x7 x8 x9 x10 x11 x12 x13 x14 σ H locs ls hw hl h
  unfold f_X1_judge_107 at h
  refine lv_iload hx hb dX1_judge_107 (lv_at hl 6 rfl) ?_
  refine lv_iload hx hb dX1_judge_109 (lv_at hl 12 rfl) ?_
  obtain ⟨r_21, σ_22, h_23, h⟩ := bd_at h
  refine q_afterI hw (q_runS C hw hl.1 (As := [.int x14]) (rest := [.int x8]) (m_X3_mealOf l E x14 σ r_21 σ_22 h_23) yq_X3_mealOf kw_861 ⟨Nat.le_of_ble_eq_true rfl, Nat.le_of_ble_eq_true rfl⟩ rfl (Nat.le_of_ble_eq_true rfl) ⟨Nat.zero_le _, Nat.zero_le _⟩ dX1_judge_111) (fun H locs hw => ?_)
  refine lv_iadd hx hb dX1_judge_114 ?_
  obtain ⟨x8_24, ex8_24, h⟩ := lt_at h
  refine q_top ex8_24 ?_
  refine lv_istore (lv' := [(8, .int x8_24), (0, .ref (E.2.1 (13))), (1, .ref (E.2.1 o)), (4, .int x4), (5, .int x5), (6, .int x6), (7, .int x7), (9, .int x9), (10, .int x10), (11, .int x11), (12, .int x12), (13, .int x13), (14, .int x14)]) hx hb dX1_judge_115 hl (by decide) rfl (fun ls hl => ?_)
  refine lv_aload_n hx hb dX1_judge_117 rfl (lv_at hl 2 rfl) ?_
  refine lv_aload_n hx hb dX1_judge_118 rfl (lv_at hl 1 rfl) ?_
  refine gf_1_0 C hw tC_13 kw_207 (c1 := 14) rfl dX1_judge_119 ?_
  refine lv_iload hx hb dX1_judge_122 (lv_at hl 11 rfl) ?_
  obtain ⟨g_25, h⟩ := gd_at h
  refine q_iald C hw tC_14 g_25 dX1_judge_124 ?_
  refine lv_iload hx hb dX1_judge_125 (lv_at hl 4 rfl) ?_
  refine lv_iload hx hb dX1_judge_127 (lv_at hl 5 rfl) ?_
  obtain ⟨r_26, σ_27, h_28, h⟩ := bd_at h
  refine q_afterI hw (q_runS C hw hl.1 (As := [.ref (E.2.1 o), .int (gI σ_22 14 x13.toNatClampNeg), .int x5, .int x6]) (rest := []) (m_X1_mostMeal l E o ho (gI σ_22 14 x13.toNatClampNeg) x5 x6 σ_22 r_26 σ_27 h_28) yq_X1_mostMeal kw_862 ⟨Nat.le_of_ble_eq_true rfl, Nat.le_of_ble_eq_true rfl⟩ rfl (Nat.le_of_ble_eq_true rfl) ⟨Nat.zero_le _, Nat.zero_le _⟩ dX1_judge_129) (fun H locs hw => ?_)
  refine lv_iload hx hb dX1_judge_132 (lv_at hl 12 rfl) ?_
  obtain ⟨r_29, σ_30, h_31, h⟩ := bd_at h
  refine q_afterI hw (q_runS C hw hl.1 (As := [.int x14]) (rest := [.int r_26]) (m_X3_mealOf l E x14 σ_27 r_29 σ_30 h_31) yq_X3_mealOf kw_861 ⟨Nat.le_of_ble_eq_true rfl, Nat.le_of_ble_eq_true rfl⟩ rfl (Nat.le_of_ble_eq_true rfl) ⟨Nat.zero_le _, Nat.zero_le _⟩ dX1_judge_134) (fun H locs hw => ?_)
  refine lv_isub hx hb dX1_judge_137 ?_
  obtain ⟨x15_32, ex15_32, h⟩ := lt_at h
  refine q_top ex15_32 ?_
  refine lv_istore (lv' := [(15, .int x15_32), (8, .int x8_24), (0, .ref (E.2.1 (13))), (1, .ref (E.2.1 o)), (4, .int x4), (5, .int x5), (6, .int x6), (7, .int x7), (9, .int x9), (10, .int x10), (11, .int x11), (12, .int x12), (13, .int x13), (14, .int x14)]) hx hb dX1_judge_138 hl (by decide) rfl (fun ls hl => ?_)
  refine lv_iload hx hb dX1_judge_140 (lv_at hl 8 rfl) ?_
  refine lv_bipush (v := (-5)) hx hb dX1_judge_142 (by decide) ?_
  refine lv_icmp_ne (tgt := 156) hx hb dX1_judge_144 (by decide) (fun c_33 => ?_) (fun c_33 => ?_)
  · replace h := ie_at h c_33
    exact w_X1_judge_156 C o ho _ hk30 _ _ _ _ _ _ _ _ _ _ _ _ _ _ hw (lv_sub hl [2, 3, 4, 7, 1, 8, 9, 10, 11, 12, 13, 0] rfl) h
  · replace h := it_at h c_33
    refine lv_iload hx hb dX1_judge_147 (lv_at hl 0 rfl) ?_
    refine lv_if_le (tgt := 156) hx hb dX1_judge_149 (by decide) (fun c_34 => ?_) (fun c_34 => ?_)
    · replace h := it_at h c_34
      exact w_X1_judge_156 C o ho _ hk30 _ _ _ _ _ _ _ _ _ _ _ _ _ _ hw (lv_sub hl [2, 3, 4, 7, 1, 8, 9, 10, 11, 12, 13, 0] rfl) h
    · replace h := ie_at h c_34
      refine lv_iload hx hb dX1_judge_152 (lv_at hl 12 rfl) ?_
      refine lv_istore (lv' := [(9, .int x13), (15, .int x15_32), (8, .int x8_24), (0, .ref (E.2.1 (13))), (1, .ref (E.2.1 o)), (4, .int x4), (5, .int x5), (6, .int x6), (7, .int x7), (10, .int x10), (11, .int x11), (12, .int x12), (13, .int x13), (14, .int x14)]) hx hb dX1_judge_154 hl (by decide) rfl (fun ls hl => ?_)
      exact w_X1_judge_156 C o ho _ hk30 _ _ _ _ _ _ _ _ _ _ _ _ _ _ hw (lv_sub hl [3, 4, 5, 8, 2, 0, 9, 10, 11, 12, 13, 1] rfl) h
set_option maxHeartbeats 4000000 in
set_option maxRecDepth 100000 in
theorem w_X1_judge_103 {p : Program} {l : Launch} {e : Env} {s : State} {m : MethodId} {args : Array Value} {below : List Frame} {meth : Method} {c : Code} {E : EV} {rr : Int32} {τ : Mem} (C : Cx E p s m args meth c cX1_judge 16 (some .int) RX1) (o : Nat) (ho : MO o) (k30 : Int32 → Int32 → Int32 → Int32 → Int32 → Int32 → Int32 → Int32 → Int32 → Int32 → Mem → Option (Int32 × Mem)) (hk30 : ∀ (x4 : Int32) (x5 : Int32) (x6 : Int32) (x7 : Int32) (x8 : Int32) (x9 : Int32) (x10 : Int32) (x11 : Int32) (x12 : Int32) (x13 : Int32) (σ : Mem) (H : Heap) (locs : List Loc) (ls : Array Slot) (hw : Wd TC E σ s H locs) (hl : lv_has ls 16 [(0, .ref (E.2.1 (13))), (1, .ref (E.2.1 o)), (4, .int x4), (5, .int x5), (6, .int x6), (7, .int x7), (8, .int x8), (9, .int x9), (10, .int x10), (11, .int x11), (12, .int x12), (13, .int x13)]) (h : k30 x4 x5 x6 x7 x8 x9 x10 x11 x12 x13 σ = some (rr, τ)), W p l e { frames := 4, cells := 0, slots := 0, locals := 104 } s m args below meth c H locs 0 0 (MQ below (QI TC E rr τ) args s 0 0 E.2.2.1) (F0 m 30 ls [])) : ∀ (x4 : Int32) (x5 : Int32) (x6 : Int32) (x8 : Int32) (x9 : Int32) (x10 : Int32) (x11 : Int32) (x12 : Int32) (x13 : Int32) (x14 : Int32) (σ : Mem) (H : Heap) (locs : List Loc) (ls : Array Slot) (hw : Wd TC E σ s H locs) (hl : lv_has ls 16 [(0, .ref (E.2.1 (13))), (1, .ref (E.2.1 o)), (4, .int x4), (5, .int x5), (6, .int x6), (8, .int x8), (9, .int x9), (10, .int x10), (11, .int x11), (12, .int x12), (13, .int x13), (14, .int x14)]) (h : f_X1_judge_103 o k30 x4 x5 x6 x8 x9 x10 x11 x12 x13 x14 σ = some (rr, τ)), W p l e { frames := 4, cells := 0, slots := 0, locals := 104 } s m args below meth c H locs 0 0 (MQ below (QI TC E rr τ) args s 0 0 E.2.2.1) (F0 m 103 ls []) := by
  obtain ⟨hx, hb, hml, hown, hts, hK, hSt, hlk, hr⟩ := id C
  intro x4 x5 x6 x8 x9 x10 x11 x12 x13 x14 σ H locs ls hw hl h
  unfold f_X1_judge_103 at h
  refine lv_iload hx hb dX1_judge_103 (lv_at hl 10 rfl) ?_
  refine lv_istore (lv' := [(7, .int x13), (0, .ref (E.2.1 (13))), (1, .ref (E.2.1 o)), (4, .int x4), (5, .int x5), (6, .int x6), (8, .int x8), (9, .int x9), (10, .int x10), (11, .int x11), (12, .int x12), (13, .int x13), (14, .int x14)]) hx hb dX1_judge_105 hl (by decide) rfl (fun ls hl => ?_)
  exact w_X1_judge_107 C o ho _ hk30 _ _ _ _ _ _ _ _ _ _ _ _ _ _ _ hw (lv_sub hl [1, 2, 3, 4, 5, 0, 6, 7, 8, 9, 10, 11, 12] rfl) h
set_option maxHeartbeats 4000000 in
set_option maxRecDepth 100000 in
theorem w_X1_judge_81 {p : Program} {l : Launch} {e : Env} {s : State} {m : MethodId} {args : Array Value} {below : List Frame} {meth : Method} {c : Code} {E : EV} {rr : Int32} {τ : Mem} (C : Cx E p s m args meth c cX1_judge 16 (some .int) RX1) (o : Nat) (ho : MO o) (k30 : Int32 → Int32 → Int32 → Int32 → Int32 → Int32 → Int32 → Int32 → Int32 → Int32 → Mem → Option (Int32 × Mem)) (hk30 : ∀ (x4 : Int32) (x5 : Int32) (x6 : Int32) (x7 : Int32) (x8 : Int32) (x9 : Int32) (x10 : Int32) (x11 : Int32) (x12 : Int32) (x13 : Int32) (σ : Mem) (H : Heap) (locs : List Loc) (ls : Array Slot) (hw : Wd TC E σ s H locs) (hl : lv_has ls 16 [(0, .ref (E.2.1 (13))), (1, .ref (E.2.1 o)), (4, .int x4), (5, .int x5), (6, .int x6), (7, .int x7), (8, .int x8), (9, .int x9), (10, .int x10), (11, .int x11), (12, .int x12), (13, .int x13)]) (h : k30 x4 x5 x6 x7 x8 x9 x10 x11 x12 x13 σ = some (rr, τ)), W p l e { frames := 4, cells := 0, slots := 0, locals := 104 } s m args below meth c H locs 0 0 (MQ below (QI TC E rr τ) args s 0 0 E.2.2.1) (F0 m 30 ls [])) : ∀ (x4 : Int32) (x5 : Int32) (x6 : Int32) (x7 : Int32) (x8 : Int32) (x9 : Int32) (x10 : Int32) (x11 : Int32) (x13 : Int32) (x14 : Int32) (s0 : Int32) (σ : Mem) (H : Heap) (locs : List Loc) (ls : Array Slot) (hw : Wd TC E σ s H locs) (hl : lv_has ls 16 [(0, .ref (E.2.1 (13))), (1, .ref (E.2.1 o)), (4, .int x4), (5, .int x5), (6, .int x6), (7, .int x7), (8, .int x8), (9, .int x9), (10, .int x10), (11, .int x11), (13, .int x13), (14, .int x14)]) (h : f_X1_judge_81 o k30 x4 x5 x6 x7 x8 x9 x10 x11 x13 x14 s0 σ = some (rr, τ)), W p l e { frames := 4, cells := 0, slots := 0, locals := 104 } s m args below meth c H locs 0 0 (MQ below (QI TC E rr τ) args s 0 0 E.2.2.1) (F0 m 81 ls [.int s0]) := by
  obtain ⟨hx, hb, hml, hown, hts, hK, hSt, hlk, hr⟩ := id C
  intro x4 x5 x6 x7 x8 x9 x10 x11 x13 x14 s0 σ H locs ls hw hl h
  unfold f_X1_judge_81 at h
  refine lv_istore (lv' := [(12, .int s0), (0, .ref (E.2.1 (13))), (1, .ref (E.2.1 o)), (4, .int x4), (5, .int x5), (6, .int x6), (7, .int x7), (8, .int x8), (9, .int x9), (10, .int x10), (11, .int x11), (13, .int x13), (14, .int x14)]) hx hb dX1_judge_81 hl (by decide) rfl (fun ls hl => ?_)
  refine lv_iload hx hb dX1_judge_83 (lv_at hl 6 rfl) ?_
  refine lv_bipush (v := (-5)) hx hb dX1_judge_85 (by decide) ?_
  refine lv_icmp_ne (tgt := 107) hx hb dX1_judge_87 (by decide) (fun c_15 => ?_) (fun c_15 => ?_)
  · replace h := ie_at h c_15
    exact w_X1_judge_107 C o ho _ hk30 _ _ _ _ _ _ _ _ _ _ _ _ _ _ _ hw (lv_sub hl [1, 2, 3, 4, 5, 6, 7, 8, 9, 10, 0, 11, 12] rfl) h
  · replace h := it_at h c_15
    refine lv_iload hx hb dX1_judge_90 (lv_at hl 0 rfl) ?_
    refine lv_if_eq (tgt := 103) hx hb dX1_judge_92 (by decide) (fun c_16 => ?_) (fun c_16 => ?_)
    · replace h := it_at h c_16
      exact w_X1_judge_103 C o ho _ hk30 _ _ _ _ _ _ _ _ _ _ _ _ _ _ hw (lv_sub hl [1, 2, 3, 4, 5, 7, 8, 9, 10, 0, 11, 12] rfl) h
    · replace h := ie_at h c_16
      refine lv_iload hx hb dX1_judge_95 (lv_at hl 12 rfl) ?_
      obtain ⟨r_17, σ_18, h_19, h⟩ := bd_at h
      refine q_afterI hw (q_runS C hw hl.1 (As := [.int x14]) (rest := []) (m_X3_isBurnt l E x14 σ r_17 σ_18 h_19) yq_X3_isBurnt kw_860 ⟨Nat.le_of_ble_eq_true rfl, Nat.le_of_ble_eq_true rfl⟩ rfl (Nat.le_of_ble_eq_true rfl) ⟨Nat.zero_le _, Nat.zero_le _⟩ dX1_judge_97) (fun H locs hw => ?_)
      refine lv_if_eq (tgt := 107) hx hb dX1_judge_100 (by decide) (fun c_20 => ?_) (fun c_20 => ?_)
      · replace h := it_at h c_20
        exact w_X1_judge_107 C o ho _ hk30 _ _ _ _ _ _ _ _ _ _ _ _ _ _ _ hw (lv_sub hl [1, 2, 3, 4, 5, 6, 7, 8, 9, 10, 0, 11, 12] rfl) h
      · replace h := ie_at h c_20
        exact w_X1_judge_103 C o ho _ hk30 _ _ _ _ _ _ _ _ _ _ _ _ _ _ hw (lv_sub hl [1, 2, 3, 4, 5, 7, 8, 9, 10, 0, 11, 12] rfl) h
set_option maxHeartbeats 4000000 in
set_option maxRecDepth 100000 in
theorem w_X1_judge_191 {p : Program} {l : Launch} {e : Env} {s : State} {m : MethodId} {args : Array Value} {below : List Frame} {meth : Method} {c : Code} {E : EV} {rr : Int32} {τ : Mem} (C : Cx E p s m args meth c cX1_judge 16 (some .int) RX1) (o : Nat) (ho : MO o) : ∀ (x4 : Int32) (x7 : Int32) (x8 : Int32) (x9 : Int32) (x10 : Int32) (σ : Mem) (H : Heap) (locs : List Loc) (ls : Array Slot) (hw : Wd TC E σ s H locs) (hl : lv_has ls 16 [(0, .ref (E.2.1 (13))), (4, .int x4), (7, .int x7), (8, .int x8), (9, .int x9), (10, .int x10)]) (h : f_X1_judge_191 o x4 x7 x8 x9 x10 σ = some (rr, τ)), W p l e { frames := 4, cells := 0, slots := 0, locals := 104 } s m args below meth c H locs 0 0 (MQ below (QI TC E rr τ) args s 0 0 E.2.2.1) (F0 m 191 ls []) := by
  obtain ⟨hx, hb, hml, hown, hts, hK, hSt, hlk, hr⟩ := id C
  intro x4 x7 x8 x9 x10 σ H locs ls hw hl h
  unfold f_X1_judge_191 at h
  refine lv_iload hx hb dX1_judge_191 (lv_at hl 1 rfl) ?_
  by_cases c_12 : x4 = (0 : Int32)
  · replace h := it_at h c_12
    refine lv_tableIn (off := 27) (tgt := 220) hx hb dX1_judge_193 (by rw [c_12]; decide) (by rw [c_12]; decide) (by rw [c_12]; rfl) (by decide) ?_
    refine lv_iload hx hb dX1_judge_220 (lv_at hl 2 rfl) ?_
    obtain ⟨rfl, rfl⟩ := ret_at h
    exact q_iret C hw dX1_judge_222
  replace h := ie_at h c_12
  by_cases c_13 : x4 = (1 : Int32)
  · replace h := it_at h c_13
    refine lv_tableIn (off := 30) (tgt := 223) hx hb dX1_judge_193 (by rw [c_13]; decide) (by rw [c_13]; decide) (by rw [c_13]; rfl) (by decide) ?_
    refine lv_iload hx hb dX1_judge_223 (lv_at hl 3 rfl) ?_
    obtain ⟨rfl, rfl⟩ := ret_at h
    exact q_iret C hw dX1_judge_225
  replace h := ie_at h c_13
  by_cases c_14 : x4 = (2 : Int32)
  · replace h := it_at h c_14
    refine lv_tableIn (off := 33) (tgt := 226) hx hb dX1_judge_193 (by rw [c_14]; decide) (by rw [c_14]; decide) (by rw [c_14]; rfl) (by decide) ?_
    refine lv_iload hx hb dX1_judge_226 (lv_at hl 4 rfl) ?_
    obtain ⟨rfl, rfl⟩ := ret_at h
    exact q_iret C hw dX1_judge_228
  replace h := ie_at h c_14
  refine lv_tableOut (tgt := 229) hx hb dX1_judge_193 (tsw_out (fun k h1 h2 => by
    rcases (show k = 0 ∨ k = 1 ∨ k = 2 by omega) with rfl | rfl | rfl
    · exact c_12
    · exact c_13
    · exact c_14)) (by decide) ?_
  refine lv_iload hx hb dX1_judge_229 (lv_at hl 5 rfl) ?_
  obtain ⟨rfl, rfl⟩ := ret_at h
  exact q_iret C hw dX1_judge_231
set_option maxHeartbeats 4000000 in
set_option maxRecDepth 100000 in
theorem w_X1_judge_30 {p : Program} {l : Launch} {e : Env} {s : State} {m : MethodId} {args : Array Value} {below : List Frame} {meth : Method} {c : Code} {E : EV} {rr : Int32} {τ : Mem} (C : Cx E p s m args meth c cX1_judge 16 (some .int) RX1) (o : Nat) (ho : MO o) : ∀ (n : Nat) (x4 : Int32) (x5 : Int32) (x6 : Int32) (x7 : Int32) (x8 : Int32) (x9 : Int32) (x10 : Int32) (x11 : Int32) (x12 : Int32) (x13 : Int32) (σ : Mem) (H : Heap) (locs : List Loc) (ls : Array Slot) (hw : Wd TC E σ s H locs) (hl : lv_has ls 16 [(0, .ref (E.2.1 (13))), (1, .ref (E.2.1 o)), (4, .int x4), (5, .int x5), (6, .int x6), (7, .int x7), (8, .int x8), (9, .int x9), (10, .int x10), (11, .int x11), (12, .int x12), (13, .int x13)]) (h : fx11 (f_X1_judge_30 o) n x4 x5 x6 x7 x8 x9 x10 x11 x12 x13 σ = some (rr, τ)), W p l e { frames := 4, cells := 0, slots := 0, locals := 104 } s m args below meth c H locs 0 0 (MQ below (QI TC E rr τ) args s 0 0 E.2.2.1) (F0 m 30 ls []) := by
  obtain ⟨hx, hb, hml, hown, hts, hK, hSt, hlk, hr⟩ := id C
  intro n
  induction n with
  | zero =>
    intro x4 x5 x6 x7 x8 x9 x10 x11 x12 x13 σ H locs ls hw hl h
    have h : none = some (rr, τ) := h
    cases h
  | succ n hk30 =>
    intro x4 x5 x6 x7 x8 x9 x10 x11 x12 x13 σ H locs ls hw hl h
    replace h : f_X1_judge_30 o (fx11 (f_X1_judge_30 o) n) x4 x5 x6 x7 x8 x9 x10 x11 x12 x13 σ = some (rr, τ) := h
    unfold f_X1_judge_30 at h
    refine lv_iload hx hb dX1_judge_30 (lv_at hl 11 rfl) ?_
    refine lv_aload_n hx hb dX1_judge_32 rfl (lv_at hl 0 rfl) ?_
    refine gf_1_2 C hw tC_13 kw_209 dX1_judge_33 ?_
    refine lv_icmp_ge (tgt := 191) hx hb dX1_judge_36 (by decide) (fun c_1 => ?_) (fun c_1 => ?_)
    · replace h := it_at h c_1
      exact w_X1_judge_191 C o ho _ _ _ _ _ _ _ _ _ hw (lv_sub hl [0, 2, 5, 6, 7, 8] rfl) h
    · replace h := ie_at h c_1
      refine lv_iload hx hb dX1_judge_39 (lv_at hl 10 rfl) ?_
      refine lv_if_eq (tgt := 191) hx hb dX1_judge_41 (by decide) (fun c_2 => ?_) (fun c_2 => ?_)
      · replace h := it_at h c_2
        exact w_X1_judge_191 C o ho _ _ _ _ _ _ _ _ _ hw (lv_sub hl [0, 2, 5, 6, 7, 8] rfl) h
      · replace h := ie_at h c_2
        refine lv_aload_n hx hb dX1_judge_44 rfl (lv_at hl 1 rfl) ?_
        refine lv_aload_n hx hb dX1_judge_45 rfl (lv_at hl 0 rfl) ?_
        refine gf_1_0 C hw tC_13 kw_207 (c1 := 14) rfl dX1_judge_46 ?_
        refine lv_iload hx hb dX1_judge_49 (lv_at hl 11 rfl) ?_
        obtain ⟨g_3, h⟩ := gd_at h
        refine q_iald C hw tC_14 g_3 dX1_judge_51 ?_
        refine lv_aload_n hx hb dX1_judge_52 rfl (lv_at hl 0 rfl) ?_
        refine gf_1_1 C hw tC_13 kw_208 (c1 := 15) rfl dX1_judge_53 ?_
        refine lv_iload hx hb dX1_judge_56 (lv_at hl 11 rfl) ?_
        obtain ⟨g_4, h⟩ := gd_at h
        refine q_iald C hw tC_15 g_4 dX1_judge_58 ?_
        refine lv_iload hx hb dX1_judge_59 (lv_at hl 3 rfl) ?_
        refine lv_iload hx hb dX1_judge_61 (lv_at hl 4 rfl) ?_
        obtain ⟨r_5, σ_6, h_7, h⟩ := bd_at h
        refine q_afterI hw (q_runV C hw hl.1 (As := [.int (gI σ 14 x13.toNatClampNeg), .int (gI σ 15 x13.toNatClampNeg), .int x5, .int x6]) (rest := []) (m_X3_hourBy l E o ho (gI σ 14 x13.toNatClampNeg) (gI σ 15 x13.toNatClampNeg) x5 x6 σ r_5 σ_6 h_7) yq_X3_hourBy (mo_T ho).1 rfl rfl kw_858 ⟨Nat.le_of_ble_eq_true rfl, Nat.le_of_ble_eq_true rfl⟩ rfl (Nat.le_of_ble_eq_true rfl) ⟨Nat.zero_le _, Nat.zero_le _⟩ dX1_judge_63) (fun H locs hw => ?_)
        refine lv_istore (lv' := [(14, .int r_5), (0, .ref (E.2.1 (13))), (1, .ref (E.2.1 o)), (4, .int x4), (5, .int x5), (6, .int x6), (7, .int x7), (8, .int x8), (9, .int x9), (10, .int x10), (11, .int x11), (12, .int x12), (13, .int x13)]) hx hb dX1_judge_66 hl (by decide) rfl (fun ls hl => ?_)
        refine lv_iload hx hb dX1_judge_68 (lv_at hl 0 rfl) ?_
        obtain ⟨r_8, σ_9, h_10, h⟩ := bd_at h
        refine q_afterI hw (q_runS C hw hl.1 (As := [.int r_5]) (rest := []) (m_X3_isAway l E r_5 σ_6 r_8 σ_9 h_10) yq_X3_isAway kw_859 ⟨Nat.le_of_ble_eq_true rfl, Nat.le_of_ble_eq_true rfl⟩ rfl (Nat.le_of_ble_eq_true rfl) ⟨Nat.zero_le _, Nat.zero_le _⟩ dX1_judge_70) (fun H locs hw => ?_)
        refine lv_if_ne (tgt := 80) hx hb dX1_judge_73 (by decide) (fun c_11 => ?_) (fun c_11 => ?_)
        · replace h := ie_at h c_11
          refine lv_iconst (v := 0) hx hb dX1_judge_80 (by decide) ?_
          exact w_X1_judge_81 C o ho _ hk30 _ _ _ _ _ _ _ _ _ _ _ _ _ _ _ hw (lv_sub hl [1, 2, 3, 4, 5, 6, 7, 8, 9, 10, 12, 0] rfl) h
        · replace h := it_at h c_11
          refine lv_iconst (v := 1) hx hb dX1_judge_76 (by decide) ?_
          refine lv_goto (tgt := 81) hx hb dX1_judge_77 (by decide) ?_
          exact w_X1_judge_81 C o ho _ hk30 _ _ _ _ _ _ _ _ _ _ _ _ _ _ _ hw (lv_sub hl [1, 2, 3, 4, 5, 6, 7, 8, 9, 10, 12, 0] rfl) h
set_option maxHeartbeats 4000000 in
set_option maxRecDepth 100000 in
theorem m_X1_judge (l : Launch) (E : EV) (o : Nat) (ho : MO o) (p2 : Int32) (p3 : Int32) (p4 : Int32) (σ : Mem) (rr : Int32) (τ : Mem) (h : f_X1_judge o p2 p3 p4 σ = some (rr, τ)) : MI TC l E yX1_judge cX1_judge 16 (some .int) 4 104 [.ref (E.2.1 (13)), .ref (E.2.1 o), .int p2, .int p3, .int p4] σ rr τ := by
  refine mt_start RX1 (by decide +kernel) rfl (Nat.le_of_ble_eq_true rfl) (fun p e s m args below meth c ls C hw hl => ?_)
  replace hl : lv_has ls 16 [(0, .ref (E.2.1 (13))), (1, .ref (E.2.1 o)), (2, .int p2), (3, .int p3), (4, .int p4)] := hl
  obtain ⟨hx, hb, hml, hown, hts, hK, hSt, hlk, hr⟩ := id C
  unfold f_X1_judge at h
  refine lv_iload_n hx hb dX1_judge_0 rfl (lv_at hl 2 rfl) ?_
  refine lv_istore (lv' := [(5, .int p2), (0, .ref (E.2.1 (13))), (1, .ref (E.2.1 o)), (2, .int p2), (3, .int p3), (4, .int p4)]) hx hb dX1_judge_1 hl (by decide) rfl (fun ls hl => ?_)
  refine lv_iload_n hx hb dX1_judge_3 rfl (lv_at hl 4 rfl) ?_
  refine lv_istore (lv' := [(6, .int p3), (5, .int p2), (0, .ref (E.2.1 (13))), (1, .ref (E.2.1 o)), (2, .int p2), (3, .int p3), (4, .int p4)]) hx hb dX1_judge_4 hl (by decide) rfl (fun ls hl => ?_)
  refine lv_bipush (v := (-5)) hx hb dX1_judge_6 (by decide) ?_
  refine lv_istore (lv' := [(7, .int (-5 : Int32)), (6, .int p3), (5, .int p2), (0, .ref (E.2.1 (13))), (1, .ref (E.2.1 o)), (2, .int p2), (3, .int p3), (4, .int p4)]) hx hb dX1_judge_8 hl (by decide) rfl (fun ls hl => ?_)
  refine lv_iconst (v := 0) hx hb dX1_judge_10 (by decide) ?_
  refine lv_istore (lv' := [(8, .int (0 : Int32)), (7, .int (-5 : Int32)), (6, .int p3), (5, .int p2), (0, .ref (E.2.1 (13))), (1, .ref (E.2.1 o)), (2, .int p2), (3, .int p3), (4, .int p4)]) hx hb dX1_judge_11 hl (by decide) rfl (fun ls hl => ?_)
  refine lv_bipush (v := (-5)) hx hb dX1_judge_13 (by decide) ?_
  refine lv_istore (lv' := [(9, .int (-5 : Int32)), (8, .int (0 : Int32)), (7, .int (-5 : Int32)), (6, .int p3), (5, .int p2), (0, .ref (E.2.1 (13))), (1, .ref (E.2.1 o)), (2, .int p2), (3, .int p3), (4, .int p4)]) hx hb dX1_judge_15 hl (by decide) rfl (fun ls hl => ?_)
  refine lv_bipush (v := (-5)) hx hb dX1_judge_17 (by decide) ?_
  refine lv_istore (lv' := [(10, .int (-5 : Int32)), (9, .int (-5 : Int32)), (8, .int (0 : Int32)), (7, .int (-5 : Int32)), (6, .int p3), (5, .int p2), (0, .ref (E.2.1 (13))), (1, .ref (E.2.1 o)), (2, .int p2), (3, .int p3), (4, .int p4)]) hx hb dX1_judge_19 hl (by decide) rfl (fun ls hl => ?_)
  refine lv_iconst (v := 0) hx hb dX1_judge_21 (by decide) ?_
  refine lv_istore (lv' := [(11, .int (0 : Int32)), (10, .int (-5 : Int32)), (9, .int (-5 : Int32)), (8, .int (0 : Int32)), (7, .int (-5 : Int32)), (6, .int p3), (5, .int p2), (0, .ref (E.2.1 (13))), (1, .ref (E.2.1 o)), (2, .int p2), (3, .int p3), (4, .int p4)]) hx hb dX1_judge_22 hl (by decide) rfl (fun ls hl => ?_)
  refine lv_iconst (v := 1) hx hb dX1_judge_24 (by decide) ?_
  refine lv_istore (lv' := [(12, .int (1 : Int32)), (11, .int (0 : Int32)), (10, .int (-5 : Int32)), (9, .int (-5 : Int32)), (8, .int (0 : Int32)), (7, .int (-5 : Int32)), (6, .int p3), (5, .int p2), (0, .ref (E.2.1 (13))), (1, .ref (E.2.1 o)), (2, .int p2), (3, .int p3), (4, .int p4)]) hx hb dX1_judge_25 hl (by decide) rfl (fun ls hl => ?_)
  refine lv_iconst (v := 0) hx hb dX1_judge_27 (by decide) ?_
  refine lv_istore (lv' := [(13, .int (0 : Int32)), (12, .int (1 : Int32)), (11, .int (0 : Int32)), (10, .int (-5 : Int32)), (9, .int (-5 : Int32)), (8, .int (0 : Int32)), (7, .int (-5 : Int32)), (6, .int p3), (5, .int p2), (0, .ref (E.2.1 (13))), (1, .ref (E.2.1 o)), (2, .int p2), (3, .int p3), (4, .int p4)]) hx hb dX1_judge_28 hl (by decide) rfl (fun ls hl => ?_)
  exact w_X1_judge_30 C o ho _ _ _ _ _ _ _ _ _ _ _ _ _ _ _ hw (lv_sub hl [9, 10, 13, 8, 7, 6, 5, 4, 3, 2, 1, 0] rfl) h
def f_X4_append_105 (x4 : Int32) (σ : Mem) : Option (Int32 × Mem) :=
  gd (ib x4 6) <|
  lt (sI σ 20 x4.toNatClampNeg (gI σ 16 4)) fun σ_19 =>
  lt (sI σ_19 16 4 ((gI σ_19 16 4) + (1 : Int32))) fun σ_21 =>
  some ((gI σ_21 16 4) - (1 : Int32), σ_21)
def f_X4_append_54 (k54 : Int32 → Int32 → Int32 → Mem → Option (Int32 × Mem)) (x2 : Int32) (x4 : Int32) (x5 : Int32) (σ : Mem) : Option (Int32 × Mem) :=
  if x5 ≤ 0 then
    (f_X4_append_105 x4 σ)
  else
    gd (ib (x5 - (1 : Int32)) 6) <|
    gd (ib (gI σ 20 (x5 - (1 : Int32)).toNatClampNeg) 6) <|
    if (gI σ 18 (gI σ 20 (x5 - (1 : Int32)).toNatClampNeg).toNatClampNeg) ≤ x2 then
      (f_X4_append_105 x4 σ)
    else
      gd (ib (x5 - (1 : Int32)) 6) <|
      gd (ib x5 6) <|
      lt (sI σ 20 x5.toNatClampNeg (gI σ 20 (x5 - (1 : Int32)).toNatClampNeg)) fun σ_15 =>
      lt (x5 - (1 : Int32)) fun x4_17 =>
      lt (x5 + (-1 : Int32)) fun x5_18 =>
      k54 x2 x4_17 x5_18 σ_15
def f_X4_append (p1 : Int32) (p2 : Int32) (p3 : Int32) (σ : Mem) : Option (Int32 × Mem) :=
  if (gI σ 16 4) < (6 : Int32) then
    (gd (ib (gI σ 16 4) 6) <|
    lt (sI σ 17 (gI σ 16 4).toNatClampNeg p1) fun σ_2 =>
    gd (ib (gI σ_2 16 4) 6) <|
    lt (sI σ_2 18 (gI σ_2 16 4).toNatClampNeg p2) fun σ_4 =>
    gd (ib (gI σ_4 16 4) 6) <|
    lt (sI σ_4 19 (gI σ_4 16 4).toNatClampNeg p3) fun σ_6 =>
    lt (gI σ_6 16 4) fun x4_8 =>
    lt (gI σ_6 16 4) fun x5_9 =>
    fx4 (f_X4_append_54) FU p2 x4_8 x5_9 σ_6)
  else
    some ((-4 : Int32), σ)
set_option maxHeartbeats 4000000 in
set_option maxRecDepth 100000 in
theorem w_X4_append_105 {p : Program} {l : Launch} {e : Env} {s : State} {m : MethodId} {args : Array Value} {below : List Frame} {meth : Method} {c : Code} {E : EV} {rr : Int32} {τ : Mem} (C : Cx E p s m args meth c cX4_append 6 (some .int) RX4) : ∀ (x4 : Int32) (σ : Mem) (H : Heap) (locs : List Loc) (ls : Array Slot) (hw : Wd TC E σ s H locs) (hl : lv_has ls 6 [(0, .ref (E.2.1 (16))), (4, .int x4)]) (h : f_X4_append_105 x4 σ = some (rr, τ)), W p l e { frames := 0, cells := 0, slots := 0, locals := 0 } s m args below meth c H locs 0 0 (MQ below (QI TC E rr τ) args s 0 0 E.2.2.1) (F0 m 105 ls []) := by
  obtain ⟨hx, hb, hml, hown, hts, hK, hSt, hlk, hr⟩ := id C
  intro x4 σ H locs ls hw hl h
  unfold f_X4_append_105 at h
  refine lv_aload_n hx hb dX4_append_105 rfl (lv_at hl 0 rfl) ?_
  refine gf_4_3 C hw tC_16 kw_227 (c1 := 20) rfl dX4_append_106 ?_
  refine lv_iload hx hb dX4_append_109 (lv_at hl 1 rfl) ?_
  refine lv_aload_n hx hb dX4_append_111 rfl (lv_at hl 0 rfl) ?_
  refine gf_4_4 C hw tC_16 kw_228 dX4_append_112 ?_
  obtain ⟨g_20, h⟩ := gd_at h
  obtain ⟨σ_19, eσ_19, h⟩ := lt_at h
  refine q_iast C hw tC_20 g_20 eσ_19 dX4_append_115 (fun H locs hw => ?_)
  refine lv_aload_n hx hb dX4_append_116 rfl (lv_at hl 0 rfl) ?_
  refine lv_dup hx hb dX4_append_117 rfl ?_
  refine gf_4_4 C hw tC_16 kw_228 dX4_append_118 ?_
  refine lv_iconst (v := 1) hx hb dX4_append_121 (by decide) ?_
  refine lv_iadd hx hb dX4_append_122 ?_
  obtain ⟨σ_21, eσ_21, h⟩ := lt_at h
  refine pf_4_4 C hw tC_16 kw_228 eσ_21 dX4_append_123 (fun H locs hw => ?_)
  refine lv_aload_n hx hb dX4_append_126 rfl (lv_at hl 0 rfl) ?_
  refine gf_4_4 C hw tC_16 kw_228 dX4_append_127 ?_
  refine lv_iconst (v := 1) hx hb dX4_append_130 (by decide) ?_
  refine lv_isub hx hb dX4_append_131 ?_
  obtain ⟨rfl, rfl⟩ := ret_at h
  exact q_iret C hw dX4_append_132
set_option maxHeartbeats 4000000 in
set_option maxRecDepth 100000 in
theorem w_X4_append_54 {p : Program} {l : Launch} {e : Env} {s : State} {m : MethodId} {args : Array Value} {below : List Frame} {meth : Method} {c : Code} {E : EV} {rr : Int32} {τ : Mem} (C : Cx E p s m args meth c cX4_append 6 (some .int) RX4) : ∀ (n : Nat) (x2 : Int32) (x4 : Int32) (x5 : Int32) (σ : Mem) (H : Heap) (locs : List Loc) (ls : Array Slot) (hw : Wd TC E σ s H locs) (hl : lv_has ls 6 [(0, .ref (E.2.1 (16))), (2, .int x2), (4, .int x4), (5, .int x5)]) (h : fx4 (f_X4_append_54) n x2 x4 x5 σ = some (rr, τ)), W p l e { frames := 0, cells := 0, slots := 0, locals := 0 } s m args below meth c H locs 0 0 (MQ below (QI TC E rr τ) args s 0 0 E.2.2.1) (F0 m 54 ls []) := by
  obtain ⟨hx, hb, hml, hown, hts, hK, hSt, hlk, hr⟩ := id C
  intro n
  induction n with
  | zero =>
    intro x2 x4 x5 σ H locs ls hw hl h
    have h : none = some (rr, τ) := h
    cases h
  | succ n hk54 =>
    intro x2 x4 x5 σ H locs ls hw hl h
    replace h : f_X4_append_54 (fx4 (f_X4_append_54) n) x2 x4 x5 σ = some (rr, τ) := h
    unfold f_X4_append_54 at h
    refine lv_iload hx hb dX4_append_54 (lv_at hl 3 rfl) ?_
    refine lv_if_le (tgt := 105) hx hb dX4_append_56 (by decide) (fun c_10 => ?_) (fun c_10 => ?_)
    · replace h := it_at h c_10
      exact w_X4_append_105 C _ _ _ _ _ hw (lv_sub hl [0, 2] rfl) h
    · replace h := ie_at h c_10
      refine lv_aload_n hx hb dX4_append_59 rfl (lv_at hl 0 rfl) ?_
      refine gf_4_1 C hw tC_16 kw_225 (c1 := 18) rfl dX4_append_60 ?_
      refine lv_aload_n hx hb dX4_append_63 rfl (lv_at hl 0 rfl) ?_
      refine gf_4_3 C hw tC_16 kw_227 (c1 := 20) rfl dX4_append_64 ?_
      refine lv_iload hx hb dX4_append_67 (lv_at hl 3 rfl) ?_
      refine lv_iconst (v := 1) hx hb dX4_append_69 (by decide) ?_
      refine lv_isub hx hb dX4_append_70 ?_
      obtain ⟨g_11, h⟩ := gd_at h
      refine q_iald C hw tC_20 g_11 dX4_append_71 ?_
      obtain ⟨g_12, h⟩ := gd_at h
      refine q_iald C hw tC_18 g_12 dX4_append_72 ?_
      refine lv_iload_n hx hb dX4_append_73 rfl (lv_at hl 1 rfl) ?_
      refine lv_icmp_le (tgt := 105) hx hb dX4_append_74 (by decide) (fun c_13 => ?_) (fun c_13 => ?_)
      · replace h := it_at h c_13
        exact w_X4_append_105 C _ _ _ _ _ hw (lv_sub hl [0, 2] rfl) h
      · replace h := ie_at h c_13
        refine lv_aload_n hx hb dX4_append_77 rfl (lv_at hl 0 rfl) ?_
        refine gf_4_3 C hw tC_16 kw_227 (c1 := 20) rfl dX4_append_78 ?_
        refine lv_iload hx hb dX4_append_81 (lv_at hl 3 rfl) ?_
        refine lv_aload_n hx hb dX4_append_83 rfl (lv_at hl 0 rfl) ?_
        refine gf_4_3 C hw tC_16 kw_227 (c1 := 20) rfl dX4_append_84 ?_
        refine lv_iload hx hb dX4_append_87 (lv_at hl 3 rfl) ?_
        refine lv_iconst (v := 1) hx hb dX4_append_89 (by decide) ?_
        refine lv_isub hx hb dX4_append_90 ?_
        obtain ⟨g_14, h⟩ := gd_at h
        refine q_iald C hw tC_20 g_14 dX4_append_91 ?_
        obtain ⟨g_16, h⟩ := gd_at h
        obtain ⟨σ_15, eσ_15, h⟩ := lt_at h
        refine q_iast C hw tC_20 g_16 eσ_15 dX4_append_92 (fun H locs hw => ?_)
        refine lv_iload hx hb dX4_append_93 (lv_at hl 3 rfl) ?_
        refine lv_iconst (v := 1) hx hb dX4_append_95 (by decide) ?_
        refine lv_isub hx hb dX4_append_96 ?_
        obtain ⟨x4_17, ex4_17, h⟩ := lt_at h
        refine q_top ex4_17 ?_
        refine lv_istore (lv' := [(4, .int x4_17), (0, .ref (E.2.1 (16))), (2, .int x2), (5, .int x5)]) hx hb dX4_append_97 hl (by decide) rfl (fun ls hl => ?_)
        obtain ⟨x5_18, ex5_18, h⟩ := lt_at h
        refine lv_iinc (v := x5_18) (lv' := [(5, .int x5_18), (4, .int x4_17), (0, .ref (E.2.1 (16))), (2, .int x2)]) hx hb dX4_append_99 hl (k := 3) rfl (by rw [ex5_18]; rfl) (by decide) rfl (fun ls hl => ?_)
        refine lv_goto (tgt := 54) hx hb dX4_append_102 (by decide) ?_
        exact hk54 _ _ _ _ _ _ _ hw (lv_sub hl [2, 3, 1, 0] rfl) h
set_option maxHeartbeats 4000000 in
set_option maxRecDepth 100000 in
theorem m_X4_append (l : Launch) (E : EV) (p1 : Int32) (p2 : Int32) (p3 : Int32) (σ : Mem) (rr : Int32) (τ : Mem) (h : f_X4_append p1 p2 p3 σ = some (rr, τ)) : MI TC l E yX4_append cX4_append 6 (some .int) 0 0 [.ref (E.2.1 (16)), .int p1, .int p2, .int p3] σ rr τ := by
  refine mt_start RX4 (by decide +kernel) rfl (Nat.le_of_ble_eq_true rfl) (fun p e s m args below meth c ls C hw hl => ?_)
  replace hl : lv_has ls 6 [(0, .ref (E.2.1 (16))), (1, .int p1), (2, .int p2), (3, .int p3)] := hl
  obtain ⟨hx, hb, hml, hown, hts, hK, hSt, hlk, hr⟩ := id C
  unfold f_X4_append at h
  refine lv_aload_n hx hb dX4_append_0 rfl (lv_at hl 0 rfl) ?_
  refine gf_4_4 C hw tC_16 kw_228 dX4_append_1 ?_
  refine lv_bipush (v := 6) hx hb dX4_append_4 (by decide) ?_
  refine lv_icmp_lt (tgt := 12) hx hb dX4_append_6 (by decide) (fun c_1 => ?_) (fun c_1 => ?_)
  · replace h := it_at h c_1
    refine lv_aload_n hx hb dX4_append_12 rfl (lv_at hl 0 rfl) ?_
    refine gf_4_0 C hw tC_16 kw_224 (c1 := 17) rfl dX4_append_13 ?_
    refine lv_aload_n hx hb dX4_append_16 rfl (lv_at hl 0 rfl) ?_
    refine gf_4_4 C hw tC_16 kw_228 dX4_append_17 ?_
    refine lv_iload_n hx hb dX4_append_20 rfl (lv_at hl 1 rfl) ?_
    obtain ⟨g_3, h⟩ := gd_at h
    obtain ⟨σ_2, eσ_2, h⟩ := lt_at h
    refine q_iast C hw tC_17 g_3 eσ_2 dX4_append_21 (fun H locs hw => ?_)
    refine lv_aload_n hx hb dX4_append_22 rfl (lv_at hl 0 rfl) ?_
    refine gf_4_1 C hw tC_16 kw_225 (c1 := 18) rfl dX4_append_23 ?_
    refine lv_aload_n hx hb dX4_append_26 rfl (lv_at hl 0 rfl) ?_
    refine gf_4_4 C hw tC_16 kw_228 dX4_append_27 ?_
    refine lv_iload_n hx hb dX4_append_30 rfl (lv_at hl 2 rfl) ?_
    obtain ⟨g_5, h⟩ := gd_at h
    obtain ⟨σ_4, eσ_4, h⟩ := lt_at h
    refine q_iast C hw tC_18 g_5 eσ_4 dX4_append_31 (fun H locs hw => ?_)
    refine lv_aload_n hx hb dX4_append_32 rfl (lv_at hl 0 rfl) ?_
    refine gf_4_2 C hw tC_16 kw_226 (c1 := 19) rfl dX4_append_33 ?_
    refine lv_aload_n hx hb dX4_append_36 rfl (lv_at hl 0 rfl) ?_
    refine gf_4_4 C hw tC_16 kw_228 dX4_append_37 ?_
    refine lv_iload_n hx hb dX4_append_40 rfl (lv_at hl 3 rfl) ?_
    obtain ⟨g_7, h⟩ := gd_at h
    obtain ⟨σ_6, eσ_6, h⟩ := lt_at h
    refine q_iast C hw tC_19 g_7 eσ_6 dX4_append_41 (fun H locs hw => ?_)
    refine lv_aload_n hx hb dX4_append_42 rfl (lv_at hl 0 rfl) ?_
    refine gf_4_4 C hw tC_16 kw_228 dX4_append_43 ?_
    obtain ⟨x4_8, ex4_8, h⟩ := lt_at h
    refine q_top ex4_8 ?_
    refine lv_istore (lv' := [(4, .int x4_8), (0, .ref (E.2.1 (16))), (1, .int p1), (2, .int p2), (3, .int p3)]) hx hb dX4_append_46 hl (by decide) rfl (fun ls hl => ?_)
    refine lv_aload_n hx hb dX4_append_48 rfl (lv_at hl 1 rfl) ?_
    refine gf_4_4 C hw tC_16 kw_228 dX4_append_49 ?_
    obtain ⟨x5_9, ex5_9, h⟩ := lt_at h
    refine q_top ex5_9 ?_
    refine lv_istore (lv' := [(5, .int x5_9), (4, .int x4_8), (0, .ref (E.2.1 (16))), (1, .int p1), (2, .int p2), (3, .int p3)]) hx hb dX4_append_52 hl (by decide) rfl (fun ls hl => ?_)
    exact w_X4_append_54 C _ _ _ _ _ _ _ _ hw (lv_sub hl [2, 4, 1, 0] rfl) h
  · replace h := ie_at h c_1
    refine lv_bipush (v := (-4)) hx hb dX4_append_9 (by decide) ?_
    obtain ⟨rfl, rfl⟩ := ret_at h
    exact q_iret C hw dX4_append_11
def f_X4_priceOf_30 (k4 : Int32 → Int32 → Int32 → Mem → Option (Int32 × Mem)) (x1 : Int32) (x2 : Int32) (x3 : Int32) (σ : Mem) : Option (Int32 × Mem) :=
  lt (x3 + (1 : Int32)) fun x3_5 =>
  k4 x1 x2 x3_5 σ
def f_X4_priceOf_4 (k4 : Int32 → Int32 → Int32 → Mem → Option (Int32 × Mem)) (x1 : Int32) (x2 : Int32) (x3 : Int32) (σ : Mem) : Option (Int32 × Mem) :=
  if (gI σ 16 4) ≤ x3 then
    (some (x2, σ))
  else
    if ((x1 >>> (x3 &&& 31)) &&& (1 : Int32)) = (1 : Int32) then
      (gd (ib x3 6) <|
      lt (x2 + (gI σ 19 x3.toNatClampNeg)) fun x2_4 =>
      f_X4_priceOf_30 k4 x1 x2_4 x3 σ)
    else
      f_X4_priceOf_30 k4 x1 x2 x3 σ
def f_X4_priceOf (p1 : Int32) (σ : Mem) : Option (Int32 × Mem) :=
  fx4 (f_X4_priceOf_4) FU p1 (0 : Int32) (0 : Int32) σ
set_option maxHeartbeats 4000000 in
set_option maxRecDepth 100000 in
theorem w_X4_priceOf_30 {p : Program} {l : Launch} {e : Env} {s : State} {m : MethodId} {args : Array Value} {below : List Frame} {meth : Method} {c : Code} {E : EV} {rr : Int32} {τ : Mem} (C : Cx E p s m args meth c cX4_priceOf 4 (some .int) RX4) (k4 : Int32 → Int32 → Int32 → Mem → Option (Int32 × Mem)) (hk4 : ∀ (x1 : Int32) (x2 : Int32) (x3 : Int32) (σ : Mem) (H : Heap) (locs : List Loc) (ls : Array Slot) (hw : Wd TC E σ s H locs) (hl : lv_has ls 4 [(0, .ref (E.2.1 (16))), (1, .int x1), (2, .int x2), (3, .int x3)]) (h : k4 x1 x2 x3 σ = some (rr, τ)), W p l e { frames := 0, cells := 0, slots := 0, locals := 0 } s m args below meth c H locs 0 0 (MQ below (QI TC E rr τ) args s 0 0 E.2.2.1) (F0 m 4 ls [])) : ∀ (x1 : Int32) (x2 : Int32) (x3 : Int32) (σ : Mem) (H : Heap) (locs : List Loc) (ls : Array Slot) (hw : Wd TC E σ s H locs) (hl : lv_has ls 4 [(0, .ref (E.2.1 (16))), (1, .int x1), (2, .int x2), (3, .int x3)]) (h : f_X4_priceOf_30 k4 x1 x2 x3 σ = some (rr, τ)), W p l e { frames := 0, cells := 0, slots := 0, locals := 0 } s m args below meth c H locs 0 0 (MQ below (QI TC E rr τ) args s 0 0 E.2.2.1) (F0 m 30 ls []) := by
  obtain ⟨hx, hb, hml, hown, hts, hK, hSt, hlk, hr⟩ := id C
  intro x1 x2 x3 σ H locs ls hw hl h
  unfold f_X4_priceOf_30 at h
  obtain ⟨x3_5, ex3_5, h⟩ := lt_at h
  refine lv_iinc (v := x3_5) (lv' := [(3, .int x3_5), (0, .ref (E.2.1 (16))), (1, .int x1), (2, .int x2)]) hx hb dX4_priceOf_30 hl (k := 3) rfl (by rw [ex3_5]; rfl) (by decide) rfl (fun ls hl => ?_)
  refine lv_goto (tgt := 4) hx hb dX4_priceOf_33 (by decide) ?_
  exact hk4 _ _ _ _ _ _ _ hw (lv_sub hl [1, 2, 3, 0] rfl) h
set_option maxHeartbeats 4000000 in
set_option maxRecDepth 100000 in
theorem w_X4_priceOf_4 {p : Program} {l : Launch} {e : Env} {s : State} {m : MethodId} {args : Array Value} {below : List Frame} {meth : Method} {c : Code} {E : EV} {rr : Int32} {τ : Mem} (C : Cx E p s m args meth c cX4_priceOf 4 (some .int) RX4) : ∀ (n : Nat) (x1 : Int32) (x2 : Int32) (x3 : Int32) (σ : Mem) (H : Heap) (locs : List Loc) (ls : Array Slot) (hw : Wd TC E σ s H locs) (hl : lv_has ls 4 [(0, .ref (E.2.1 (16))), (1, .int x1), (2, .int x2), (3, .int x3)]) (h : fx4 (f_X4_priceOf_4) n x1 x2 x3 σ = some (rr, τ)), W p l e { frames := 0, cells := 0, slots := 0, locals := 0 } s m args below meth c H locs 0 0 (MQ below (QI TC E rr τ) args s 0 0 E.2.2.1) (F0 m 4 ls []) := by
  obtain ⟨hx, hb, hml, hown, hts, hK, hSt, hlk, hr⟩ := id C
  intro n
  induction n with
  | zero =>
    intro x1 x2 x3 σ H locs ls hw hl h
    have h : none = some (rr, τ) := h
    cases h
  | succ n hk4 =>
    intro x1 x2 x3 σ H locs ls hw hl h
    replace h : f_X4_priceOf_4 (fx4 (f_X4_priceOf_4) n) x1 x2 x3 σ = some (rr, τ) := h
    unfold f_X4_priceOf_4 at h
    refine lv_iload_n hx hb dX4_priceOf_4 rfl (lv_at hl 3 rfl) ?_
    refine lv_aload_n hx hb dX4_priceOf_5 rfl (lv_at hl 0 rfl) ?_
    refine gf_4_4 C hw tC_16 kw_228 dX4_priceOf_6 ?_
    refine lv_icmp_ge (tgt := 36) hx hb dX4_priceOf_9 (by decide) (fun c_1 => ?_) (fun c_1 => ?_)
    · replace h := it_at h c_1
      refine lv_iload_n hx hb dX4_priceOf_36 rfl (lv_at hl 2 rfl) ?_
      obtain ⟨rfl, rfl⟩ := ret_at h
      exact q_iret C hw dX4_priceOf_37
    · replace h := ie_at h c_1
      refine lv_iload_n hx hb dX4_priceOf_12 rfl (lv_at hl 1 rfl) ?_
      refine lv_iload_n hx hb dX4_priceOf_13 rfl (lv_at hl 3 rfl) ?_
      refine lv_ishr hx hb dX4_priceOf_14 ?_
      refine lv_iconst (v := 1) hx hb dX4_priceOf_15 (by decide) ?_
      refine lv_iand hx hb dX4_priceOf_16 ?_
      refine lv_iconst (v := 1) hx hb dX4_priceOf_17 (by decide) ?_
      refine lv_icmp_ne (tgt := 30) hx hb dX4_priceOf_18 (by decide) (fun c_2 => ?_) (fun c_2 => ?_)
      · replace h := ie_at h c_2
        exact w_X4_priceOf_30 C _ hk4 _ _ _ _ _ _ _ hw (lv_sub hl [0, 1, 2, 3] rfl) h
      · replace h := it_at h c_2
        refine lv_iload_n hx hb dX4_priceOf_21 rfl (lv_at hl 2 rfl) ?_
        refine lv_aload_n hx hb dX4_priceOf_22 rfl (lv_at hl 0 rfl) ?_
        refine gf_4_2 C hw tC_16 kw_226 (c1 := 19) rfl dX4_priceOf_23 ?_
        refine lv_iload_n hx hb dX4_priceOf_26 rfl (lv_at hl 3 rfl) ?_
        obtain ⟨g_3, h⟩ := gd_at h
        refine q_iald C hw tC_19 g_3 dX4_priceOf_27 ?_
        refine lv_iadd hx hb dX4_priceOf_28 ?_
        obtain ⟨x2_4, ex2_4, h⟩ := lt_at h
        refine q_top ex2_4 ?_
        refine lv_istore_n (lv' := [(2, .int x2_4), (0, .ref (E.2.1 (16))), (1, .int x1), (3, .int x3)]) hx hb dX4_priceOf_29 rfl hl (by decide) rfl (fun ls hl => ?_)
        exact w_X4_priceOf_30 C _ hk4 _ _ _ _ _ _ _ hw (lv_sub hl [1, 2, 0, 3] rfl) h
set_option maxHeartbeats 4000000 in
set_option maxRecDepth 100000 in
theorem m_X4_priceOf (l : Launch) (E : EV) (p1 : Int32) (σ : Mem) (rr : Int32) (τ : Mem) (h : f_X4_priceOf p1 σ = some (rr, τ)) : MI TC l E yX4_priceOf cX4_priceOf 4 (some .int) 0 0 [.ref (E.2.1 (16)), .int p1] σ rr τ := by
  refine mt_start RX4 (by decide +kernel) rfl (Nat.le_of_ble_eq_true rfl) (fun p e s m args below meth c ls C hw hl => ?_)
  replace hl : lv_has ls 4 [(0, .ref (E.2.1 (16))), (1, .int p1)] := hl
  obtain ⟨hx, hb, hml, hown, hts, hK, hSt, hlk, hr⟩ := id C
  unfold f_X4_priceOf at h
  refine lv_iconst (v := 0) hx hb dX4_priceOf_0 (by decide) ?_
  refine lv_istore_n (lv' := [(2, .int (0 : Int32)), (0, .ref (E.2.1 (16))), (1, .int p1)]) hx hb dX4_priceOf_1 rfl hl (by decide) rfl (fun ls hl => ?_)
  refine lv_iconst (v := 0) hx hb dX4_priceOf_2 (by decide) ?_
  refine lv_istore_n (lv' := [(3, .int (0 : Int32)), (2, .int (0 : Int32)), (0, .ref (E.2.1 (16))), (1, .int p1)]) hx hb dX4_priceOf_3 rfl hl (by decide) rfl (fun ls hl => ?_)
  exact w_X4_priceOf_4 C _ _ _ _ _ _ _ _ hw (lv_sub hl [2, 3, 1, 0] rfl) h
def f_X4_lateOf_63 (k7 : Int32 → Int32 → Int32 → Int32 → Mem → Option (Int32 × Mem)) (x1 : Int32) (x2 : Int32) (x3 : Int32) (x4 : Int32) (σ : Mem) : Option (Int32 × Mem) :=
  lt (x4 + (1 : Int32)) fun x4_10 =>
  k7 x1 x2 x3 x4_10 σ
def f_X4_lateOf_7 (k7 : Int32 → Int32 → Int32 → Int32 → Mem → Option (Int32 × Mem)) (x1 : Int32) (x2 : Int32) (x3 : Int32) (x4 : Int32) (σ : Mem) : Option (Int32 × Mem) :=
  if (gI σ 16 4) ≤ x4 then
    (some (x2, σ))
  else
    gd (ib x4 6) <|
    lt (gI σ 20 x4.toNatClampNeg) fun x5_3 =>
    if ((x1 >>> (x5_3 &&& 31)) &&& (1 : Int32)) = (1 : Int32) then
      (gd (ib x5_3 6) <|
      lt (x3 + (gI σ 17 x5_3.toNatClampNeg)) fun x3_6 =>
      gd (ib x5_3 6) <|
      if x3_6 ≤ (gI σ 18 x5_3.toNatClampNeg) then
        (f_X4_lateOf_63 k7 x1 x2 x3_6 x4 σ)
      else
        lt (x2 ||| ((1 : Int32) <<< (x5_3 &&& 31))) fun x2_9 =>
        f_X4_lateOf_63 k7 x1 x2_9 x3_6 x4 σ)
    else
      f_X4_lateOf_63 k7 x1 x2 x3 x4 σ
def f_X4_lateOf (p1 : Int32) (σ : Mem) : Option (Int32 × Mem) :=
  fx5 (f_X4_lateOf_7) FU p1 (0 : Int32) (0 : Int32) (0 : Int32) σ
set_option maxHeartbeats 4000000 in
set_option maxRecDepth 100000 in
theorem w_X4_lateOf_63 {p : Program} {l : Launch} {e : Env} {s : State} {m : MethodId} {args : Array Value} {below : List Frame} {meth : Method} {c : Code} {E : EV} {rr : Int32} {τ : Mem} (C : Cx E p s m args meth c cX4_lateOf 6 (some .int) RX4) (k7 : Int32 → Int32 → Int32 → Int32 → Mem → Option (Int32 × Mem)) (hk7 : ∀ (x1 : Int32) (x2 : Int32) (x3 : Int32) (x4 : Int32) (σ : Mem) (H : Heap) (locs : List Loc) (ls : Array Slot) (hw : Wd TC E σ s H locs) (hl : lv_has ls 6 [(0, .ref (E.2.1 (16))), (1, .int x1), (2, .int x2), (3, .int x3), (4, .int x4)]) (h : k7 x1 x2 x3 x4 σ = some (rr, τ)), W p l e { frames := 0, cells := 0, slots := 0, locals := 0 } s m args below meth c H locs 0 0 (MQ below (QI TC E rr τ) args s 0 0 E.2.2.1) (F0 m 7 ls [])) : ∀ (x1 : Int32) (x2 : Int32) (x3 : Int32) (x4 : Int32) (σ : Mem) (H : Heap) (locs : List Loc) (ls : Array Slot) (hw : Wd TC E σ s H locs) (hl : lv_has ls 6 [(0, .ref (E.2.1 (16))), (1, .int x1), (2, .int x2), (3, .int x3), (4, .int x4)]) (h : f_X4_lateOf_63 k7 x1 x2 x3 x4 σ = some (rr, τ)), W p l e { frames := 0, cells := 0, slots := 0, locals := 0 } s m args below meth c H locs 0 0 (MQ below (QI TC E rr τ) args s 0 0 E.2.2.1) (F0 m 63 ls []) := by
  obtain ⟨hx, hb, hml, hown, hts, hK, hSt, hlk, hr⟩ := id C
  intro x1 x2 x3 x4 σ H locs ls hw hl h
  unfold f_X4_lateOf_63 at h
  obtain ⟨x4_10, ex4_10, h⟩ := lt_at h
  refine lv_iinc (v := x4_10) (lv' := [(4, .int x4_10), (0, .ref (E.2.1 (16))), (1, .int x1), (2, .int x2), (3, .int x3)]) hx hb dX4_lateOf_63 hl (k := 4) rfl (by rw [ex4_10]; rfl) (by decide) rfl (fun ls hl => ?_)
  refine lv_goto (tgt := 7) hx hb dX4_lateOf_66 (by decide) ?_
  exact hk7 _ _ _ _ _ _ _ _ hw (lv_sub hl [1, 2, 3, 4, 0] rfl) h
set_option maxHeartbeats 4000000 in
set_option maxRecDepth 100000 in
theorem w_X4_lateOf_7 {p : Program} {l : Launch} {e : Env} {s : State} {m : MethodId} {args : Array Value} {below : List Frame} {meth : Method} {c : Code} {E : EV} {rr : Int32} {τ : Mem} (C : Cx E p s m args meth c cX4_lateOf 6 (some .int) RX4) : ∀ (n : Nat) (x1 : Int32) (x2 : Int32) (x3 : Int32) (x4 : Int32) (σ : Mem) (H : Heap) (locs : List Loc) (ls : Array Slot) (hw : Wd TC E σ s H locs) (hl : lv_has ls 6 [(0, .ref (E.2.1 (16))), (1, .int x1), (2, .int x2), (3, .int x3), (4, .int x4)]) (h : fx5 (f_X4_lateOf_7) n x1 x2 x3 x4 σ = some (rr, τ)), W p l e { frames := 0, cells := 0, slots := 0, locals := 0 } s m args below meth c H locs 0 0 (MQ below (QI TC E rr τ) args s 0 0 E.2.2.1) (F0 m 7 ls []) := by
  obtain ⟨hx, hb, hml, hown, hts, hK, hSt, hlk, hr⟩ := id C
  intro n
  induction n with
  | zero =>
    intro x1 x2 x3 x4 σ H locs ls hw hl h
    have h : none = some (rr, τ) := h
    cases h
  | succ n hk7 =>
    intro x1 x2 x3 x4 σ H locs ls hw hl h
    replace h : f_X4_lateOf_7 (fx5 (f_X4_lateOf_7) n) x1 x2 x3 x4 σ = some (rr, τ) := h
    unfold f_X4_lateOf_7 at h
    refine lv_iload hx hb dX4_lateOf_7 (lv_at hl 4 rfl) ?_
    refine lv_aload_n hx hb dX4_lateOf_9 rfl (lv_at hl 0 rfl) ?_
    refine gf_4_4 C hw tC_16 kw_228 dX4_lateOf_10 ?_
    refine lv_icmp_ge (tgt := 69) hx hb dX4_lateOf_13 (by decide) (fun c_1 => ?_) (fun c_1 => ?_)
    · replace h := it_at h c_1
      refine lv_iload_n hx hb dX4_lateOf_69 rfl (lv_at hl 2 rfl) ?_
      obtain ⟨rfl, rfl⟩ := ret_at h
      exact q_iret C hw dX4_lateOf_70
    · replace h := ie_at h c_1
      refine lv_aload_n hx hb dX4_lateOf_16 rfl (lv_at hl 0 rfl) ?_
      refine gf_4_3 C hw tC_16 kw_227 (c1 := 20) rfl dX4_lateOf_17 ?_
      refine lv_iload hx hb dX4_lateOf_20 (lv_at hl 4 rfl) ?_
      obtain ⟨g_2, h⟩ := gd_at h
      refine q_iald C hw tC_20 g_2 dX4_lateOf_22 ?_
      obtain ⟨x5_3, ex5_3, h⟩ := lt_at h
      refine q_top ex5_3 ?_
      refine lv_istore (lv' := [(5, .int x5_3), (0, .ref (E.2.1 (16))), (1, .int x1), (2, .int x2), (3, .int x3), (4, .int x4)]) hx hb dX4_lateOf_23 hl (by decide) rfl (fun ls hl => ?_)
      refine lv_iload_n hx hb dX4_lateOf_25 rfl (lv_at hl 2 rfl) ?_
      refine lv_iload hx hb dX4_lateOf_26 (lv_at hl 0 rfl) ?_
      refine lv_ishr hx hb dX4_lateOf_28 ?_
      refine lv_iconst (v := 1) hx hb dX4_lateOf_29 (by decide) ?_
      refine lv_iand hx hb dX4_lateOf_30 ?_
      refine lv_iconst (v := 1) hx hb dX4_lateOf_31 (by decide) ?_
      refine lv_icmp_ne (tgt := 63) hx hb dX4_lateOf_32 (by decide) (fun c_4 => ?_) (fun c_4 => ?_)
      · replace h := ie_at h c_4
        exact w_X4_lateOf_63 C _ hk7 _ _ _ _ _ _ _ _ hw (lv_sub hl [1, 2, 3, 4, 5] rfl) h
      · replace h := it_at h c_4
        refine lv_iload_n hx hb dX4_lateOf_35 rfl (lv_at hl 4 rfl) ?_
        refine lv_aload_n hx hb dX4_lateOf_36 rfl (lv_at hl 1 rfl) ?_
        refine gf_4_0 C hw tC_16 kw_224 (c1 := 17) rfl dX4_lateOf_37 ?_
        refine lv_iload hx hb dX4_lateOf_40 (lv_at hl 0 rfl) ?_
        obtain ⟨g_5, h⟩ := gd_at h
        refine q_iald C hw tC_17 g_5 dX4_lateOf_42 ?_
        refine lv_iadd hx hb dX4_lateOf_43 ?_
        obtain ⟨x3_6, ex3_6, h⟩ := lt_at h
        refine q_top ex3_6 ?_
        refine lv_istore_n (lv' := [(3, .int x3_6), (5, .int x5_3), (0, .ref (E.2.1 (16))), (1, .int x1), (2, .int x2), (4, .int x4)]) hx hb dX4_lateOf_44 rfl hl (by decide) rfl (fun ls hl => ?_)
        refine lv_iload_n hx hb dX4_lateOf_45 rfl (lv_at hl 0 rfl) ?_
        refine lv_aload_n hx hb dX4_lateOf_46 rfl (lv_at hl 2 rfl) ?_
        refine gf_4_1 C hw tC_16 kw_225 (c1 := 18) rfl dX4_lateOf_47 ?_
        refine lv_iload hx hb dX4_lateOf_50 (lv_at hl 1 rfl) ?_
        obtain ⟨g_7, h⟩ := gd_at h
        refine q_iald C hw tC_18 g_7 dX4_lateOf_52 ?_
        refine lv_icmp_le (tgt := 63) hx hb dX4_lateOf_53 (by decide) (fun c_8 => ?_) (fun c_8 => ?_)
        · replace h := it_at h c_8
          exact w_X4_lateOf_63 C _ hk7 _ _ _ _ _ _ _ _ hw (lv_sub hl [2, 3, 4, 0, 5] rfl) h
        · replace h := ie_at h c_8
          refine lv_iload_n hx hb dX4_lateOf_56 rfl (lv_at hl 4 rfl) ?_
          refine lv_iconst (v := 1) hx hb dX4_lateOf_57 (by decide) ?_
          refine lv_iload hx hb dX4_lateOf_58 (lv_at hl 1 rfl) ?_
          refine lv_ishl hx hb dX4_lateOf_60 ?_
          refine lv_ior hx hb dX4_lateOf_61 ?_
          obtain ⟨x2_9, ex2_9, h⟩ := lt_at h
          refine q_top ex2_9 ?_
          refine lv_istore_n (lv' := [(2, .int x2_9), (3, .int x3_6), (5, .int x5_3), (0, .ref (E.2.1 (16))), (1, .int x1), (4, .int x4)]) hx hb dX4_lateOf_62 rfl hl (by decide) rfl (fun ls hl => ?_)
          exact w_X4_lateOf_63 C _ hk7 _ _ _ _ _ _ _ _ hw (lv_sub hl [3, 4, 0, 1, 5] rfl) h
set_option maxHeartbeats 4000000 in
set_option maxRecDepth 100000 in
theorem m_X4_lateOf (l : Launch) (E : EV) (p1 : Int32) (σ : Mem) (rr : Int32) (τ : Mem) (h : f_X4_lateOf p1 σ = some (rr, τ)) : MI TC l E yX4_lateOf cX4_lateOf 6 (some .int) 0 0 [.ref (E.2.1 (16)), .int p1] σ rr τ := by
  refine mt_start RX4 (by decide +kernel) rfl (Nat.le_of_ble_eq_true rfl) (fun p e s m args below meth c ls C hw hl => ?_)
  replace hl : lv_has ls 6 [(0, .ref (E.2.1 (16))), (1, .int p1)] := hl
  obtain ⟨hx, hb, hml, hown, hts, hK, hSt, hlk, hr⟩ := id C
  unfold f_X4_lateOf at h
  refine lv_iconst (v := 0) hx hb dX4_lateOf_0 (by decide) ?_
  refine lv_istore_n (lv' := [(2, .int (0 : Int32)), (0, .ref (E.2.1 (16))), (1, .int p1)]) hx hb dX4_lateOf_1 rfl hl (by decide) rfl (fun ls hl => ?_)
  refine lv_iconst (v := 0) hx hb dX4_lateOf_2 (by decide) ?_
  refine lv_istore_n (lv' := [(3, .int (0 : Int32)), (2, .int (0 : Int32)), (0, .ref (E.2.1 (16))), (1, .int p1)]) hx hb dX4_lateOf_3 rfl hl (by decide) rfl (fun ls hl => ?_)
  refine lv_iconst (v := 0) hx hb dX4_lateOf_4 (by decide) ?_
  refine lv_istore (lv' := [(4, .int (0 : Int32)), (3, .int (0 : Int32)), (2, .int (0 : Int32)), (0, .ref (E.2.1 (16))), (1, .int p1)]) hx hb dX4_lateOf_5 hl (by decide) rfl (fun ls hl => ?_)
  exact w_X4_lateOf_7 C _ _ _ _ _ _ _ _ _ hw (lv_sub hl [3, 4, 2, 1, 0] rfl) h
def f_X4_dearest_42 (k6 : Int32 → Int32 → Int32 → Mem → Option (Int32 × Mem)) (x1 : Int32) (x2 : Int32) (x3 : Int32) (σ : Mem) : Option (Int32 × Mem) :=
  lt (x3 + (1 : Int32)) fun x3_10 =>
  k6 x1 x2 x3_10 σ
def f_X4_dearest_6 (k6 : Int32 → Int32 → Int32 → Mem → Option (Int32 × Mem)) (x1 : Int32) (x2 : Int32) (x3 : Int32) (σ : Mem) : Option (Int32 × Mem) :=
  if ((1 : Int32) <<< ((gI σ 16 4) &&& 31)) ≤ x3 then
    (some (x2, σ))
  else
    bd (f_X4_priceOf x3 σ) fun r_2 σ_3 =>
    if r_2 ≤ x1 then
      (f_X4_dearest_42 k6 x1 x2 x3 σ_3)
    else
      bd (f_X4_lateOf x3 σ_3) fun r_6 σ_7 =>
      if r_6 = 0 then
        (f_X4_dearest_42 k6 r_2 x3 x3 σ_7)
      else
        f_X4_dearest_42 k6 x1 x2 x3 σ_7
def f_X4_dearest (σ : Mem) : Option (Int32 × Mem) :=
  fx4 (f_X4_dearest_6) FU (0 : Int32) (0 : Int32) (0 : Int32) σ
set_option maxHeartbeats 4000000 in
set_option maxRecDepth 100000 in
theorem w_X4_dearest_42 {p : Program} {l : Launch} {e : Env} {s : State} {m : MethodId} {args : Array Value} {below : List Frame} {meth : Method} {c : Code} {E : EV} {rr : Int32} {τ : Mem} (C : Cx E p s m args meth c cX4_dearest 5 (some .int) RX4) (k6 : Int32 → Int32 → Int32 → Mem → Option (Int32 × Mem)) (hk6 : ∀ (x1 : Int32) (x2 : Int32) (x3 : Int32) (σ : Mem) (H : Heap) (locs : List Loc) (ls : Array Slot) (hw : Wd TC E σ s H locs) (hl : lv_has ls 5 [(0, .ref (E.2.1 (16))), (1, .int x1), (2, .int x2), (3, .int x3)]) (h : k6 x1 x2 x3 σ = some (rr, τ)), W p l e { frames := 1, cells := 0, slots := 0, locals := 25 } s m args below meth c H locs 0 0 (MQ below (QI TC E rr τ) args s 0 0 E.2.2.1) (F0 m 6 ls [])) : ∀ (x1 : Int32) (x2 : Int32) (x3 : Int32) (σ : Mem) (H : Heap) (locs : List Loc) (ls : Array Slot) (hw : Wd TC E σ s H locs) (hl : lv_has ls 5 [(0, .ref (E.2.1 (16))), (1, .int x1), (2, .int x2), (3, .int x3)]) (h : f_X4_dearest_42 k6 x1 x2 x3 σ = some (rr, τ)), W p l e { frames := 1, cells := 0, slots := 0, locals := 25 } s m args below meth c H locs 0 0 (MQ below (QI TC E rr τ) args s 0 0 E.2.2.1) (F0 m 42 ls []) := by
  obtain ⟨hx, hb, hml, hown, hts, hK, hSt, hlk, hr⟩ := id C
  intro x1 x2 x3 σ H locs ls hw hl h
  unfold f_X4_dearest_42 at h
  obtain ⟨x3_10, ex3_10, h⟩ := lt_at h
  refine lv_iinc (v := x3_10) (lv' := [(3, .int x3_10), (0, .ref (E.2.1 (16))), (1, .int x1), (2, .int x2)]) hx hb dX4_dearest_42 hl (k := 3) rfl (by rw [ex3_10]; rfl) (by decide) rfl (fun ls hl => ?_)
  refine lv_goto (tgt := 6) hx hb dX4_dearest_45 (by decide) ?_
  exact hk6 _ _ _ _ _ _ _ hw (lv_sub hl [1, 2, 3, 0] rfl) h
set_option maxHeartbeats 4000000 in
set_option maxRecDepth 100000 in
theorem w_X4_dearest_6 {p : Program} {l : Launch} {e : Env} {s : State} {m : MethodId} {args : Array Value} {below : List Frame} {meth : Method} {c : Code} {E : EV} {rr : Int32} {τ : Mem} (C : Cx E p s m args meth c cX4_dearest 5 (some .int) RX4) : ∀ (n : Nat) (x1 : Int32) (x2 : Int32) (x3 : Int32) (σ : Mem) (H : Heap) (locs : List Loc) (ls : Array Slot) (hw : Wd TC E σ s H locs) (hl : lv_has ls 5 [(0, .ref (E.2.1 (16))), (1, .int x1), (2, .int x2), (3, .int x3)]) (h : fx4 (f_X4_dearest_6) n x1 x2 x3 σ = some (rr, τ)), W p l e { frames := 1, cells := 0, slots := 0, locals := 25 } s m args below meth c H locs 0 0 (MQ below (QI TC E rr τ) args s 0 0 E.2.2.1) (F0 m 6 ls []) := by
  obtain ⟨hx, hb, hml, hown, hts, hK, hSt, hlk, hr⟩ := id C
  intro n
  induction n with
  | zero =>
    intro x1 x2 x3 σ H locs ls hw hl h
    have h : none = some (rr, τ) := h
    cases h
  | succ n hk6 =>
    intro x1 x2 x3 σ H locs ls hw hl h
    replace h : f_X4_dearest_6 (fx4 (f_X4_dearest_6) n) x1 x2 x3 σ = some (rr, τ) := h
    unfold f_X4_dearest_6 at h
    refine lv_iload_n hx hb dX4_dearest_6 rfl (lv_at hl 3 rfl) ?_
    refine lv_iconst (v := 1) hx hb dX4_dearest_7 (by decide) ?_
    refine lv_aload_n hx hb dX4_dearest_8 rfl (lv_at hl 0 rfl) ?_
    refine gf_4_4 C hw tC_16 kw_228 dX4_dearest_9 ?_
    refine lv_ishl hx hb dX4_dearest_12 ?_
    refine lv_icmp_ge (tgt := 48) hx hb dX4_dearest_13 (by decide) (fun c_1 => ?_) (fun c_1 => ?_)
    · replace h := it_at h c_1
      refine lv_iload_n hx hb dX4_dearest_48 rfl (lv_at hl 2 rfl) ?_
      obtain ⟨rfl, rfl⟩ := ret_at h
      exact q_iret C hw dX4_dearest_49
    · replace h := ie_at h c_1
      refine lv_aload_n hx hb dX4_dearest_16 rfl (lv_at hl 0 rfl) ?_
      refine lv_iload_n hx hb dX4_dearest_17 rfl (lv_at hl 3 rfl) ?_
      obtain ⟨r_2, σ_3, h_4, h⟩ := bd_at h
      refine q_afterI hw (q_runV C hw hl.1 (As := [.int x3]) (rest := []) (m_X4_priceOf l E x3 σ r_2 σ_3 h_4) yq_X4_priceOf tC_16 rfl rfl kw_884 ⟨Nat.le_of_ble_eq_true rfl, Nat.le_of_ble_eq_true rfl⟩ rfl (Nat.le_of_ble_eq_true rfl) ⟨Nat.zero_le _, Nat.zero_le _⟩ dX4_dearest_18) (fun H locs hw => ?_)
      refine lv_istore (lv' := [(4, .int r_2), (0, .ref (E.2.1 (16))), (1, .int x1), (2, .int x2), (3, .int x3)]) hx hb dX4_dearest_21 hl (by decide) rfl (fun ls hl => ?_)
      refine lv_iload hx hb dX4_dearest_23 (lv_at hl 0 rfl) ?_
      refine lv_iload_n hx hb dX4_dearest_25 rfl (lv_at hl 2 rfl) ?_
      refine lv_icmp_le (tgt := 42) hx hb dX4_dearest_26 (by decide) (fun c_5 => ?_) (fun c_5 => ?_)
      · replace h := it_at h c_5
        exact w_X4_dearest_42 C _ hk6 _ _ _ _ _ _ _ hw (lv_sub hl [1, 2, 3, 4] rfl) h
      · replace h := ie_at h c_5
        refine lv_aload_n hx hb dX4_dearest_29 rfl (lv_at hl 1 rfl) ?_
        refine lv_iload_n hx hb dX4_dearest_30 rfl (lv_at hl 4 rfl) ?_
        obtain ⟨r_6, σ_7, h_8, h⟩ := bd_at h
        refine q_afterI hw (q_runV C hw hl.1 (As := [.int x3]) (rest := []) (m_X4_lateOf l E x3 σ_3 r_6 σ_7 h_8) yq_X4_lateOf tC_16 rfl rfl kw_888 ⟨Nat.le_of_ble_eq_true rfl, Nat.le_of_ble_eq_true rfl⟩ rfl (Nat.le_of_ble_eq_true rfl) ⟨Nat.zero_le _, Nat.zero_le _⟩ dX4_dearest_31) (fun H locs hw => ?_)
        refine lv_if_ne (tgt := 42) hx hb dX4_dearest_34 (by decide) (fun c_9 => ?_) (fun c_9 => ?_)
        · replace h := ie_at h c_9
          exact w_X4_dearest_42 C _ hk6 _ _ _ _ _ _ _ hw (lv_sub hl [1, 2, 3, 4] rfl) h
        · replace h := it_at h c_9
          refine lv_iload hx hb dX4_dearest_37 (lv_at hl 0 rfl) ?_
          refine lv_istore_n (lv' := [(1, .int r_2), (4, .int r_2), (0, .ref (E.2.1 (16))), (2, .int x2), (3, .int x3)]) hx hb dX4_dearest_39 rfl hl (by decide) rfl (fun ls hl => ?_)
          refine lv_iload_n hx hb dX4_dearest_40 rfl (lv_at hl 4 rfl) ?_
          refine lv_istore_n (lv' := [(2, .int x3), (1, .int r_2), (4, .int r_2), (0, .ref (E.2.1 (16))), (3, .int x3)]) hx hb dX4_dearest_41 rfl hl (by decide) rfl (fun ls hl => ?_)
          exact w_X4_dearest_42 C _ hk6 _ _ _ _ _ _ _ hw (lv_sub hl [3, 1, 0, 4] rfl) h
set_option maxHeartbeats 4000000 in
set_option maxRecDepth 100000 in
theorem m_X4_dearest (l : Launch) (E : EV) (σ : Mem) (rr : Int32) (τ : Mem) (h : f_X4_dearest  σ = some (rr, τ)) : MI TC l E yX4_dearest cX4_dearest 5 (some .int) 1 25 [.ref (E.2.1 (16))] σ rr τ := by
  refine mt_start RX4 (by decide +kernel) rfl (Nat.le_of_ble_eq_true rfl) (fun p e s m args below meth c ls C hw hl => ?_)
  replace hl : lv_has ls 5 [(0, .ref (E.2.1 (16)))] := hl
  obtain ⟨hx, hb, hml, hown, hts, hK, hSt, hlk, hr⟩ := id C
  unfold f_X4_dearest at h
  refine lv_iconst (v := 0) hx hb dX4_dearest_0 (by decide) ?_
  refine lv_istore_n (lv' := [(1, .int (0 : Int32)), (0, .ref (E.2.1 (16)))]) hx hb dX4_dearest_1 rfl hl (by decide) rfl (fun ls hl => ?_)
  refine lv_iconst (v := 0) hx hb dX4_dearest_2 (by decide) ?_
  refine lv_istore_n (lv' := [(2, .int (0 : Int32)), (1, .int (0 : Int32)), (0, .ref (E.2.1 (16)))]) hx hb dX4_dearest_3 rfl hl (by decide) rfl (fun ls hl => ?_)
  refine lv_iconst (v := 0) hx hb dX4_dearest_4 (by decide) ?_
  refine lv_istore_n (lv' := [(3, .int (0 : Int32)), (2, .int (0 : Int32)), (1, .int (0 : Int32)), (0, .ref (E.2.1 (16)))]) hx hb dX4_dearest_5 rfl hl (by decide) rfl (fun ls hl => ?_)
  exact w_X4_dearest_6 C _ _ _ _ _ _ _ _ hw (lv_sub hl [3, 2, 1, 0] rfl) h
