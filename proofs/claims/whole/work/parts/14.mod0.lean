def f_X12_here (σ : Mem) : Option (Int32 × Mem) :=
  if (gI σ 0 6) ≤ (gI σ 0 5) then
    (some ((-1 : Int32), σ))
  else
    gd (ib ((11 : Int32) + (gI σ 0 5)) 1055) <|
    some (gI σ 1 ((11 : Int32) + (gI σ 0 5)).toNatClampNeg, σ)
set_option maxHeartbeats 4000000 in
set_option maxRecDepth 100000 in
theorem m_X12_here (l : Launch) (E : EV) (σ : Mem) (rr : Int32) (τ : Mem) (h : f_X12_here  σ = some (rr, τ)) : MI TM l E yX12_here cX12_here 1 (some .int) 0 0 [.ref (E.2.1 (0))] σ rr τ := by
  refine mt_start RX12 (by decide +kernel) rfl (Nat.le_of_ble_eq_true rfl) (fun p e s m args below meth c ls C hw hl => ?_)
  replace hl : lv_has ls 1 [(0, .ref (E.2.1 (0)))] := hl
  obtain ⟨hx, hb, hml, hown, hts, hK, hSt, hlk, hr⟩ := id C
  unfold f_X12_here at h
  refine lv_aload_n hx hb dX12_here_0 rfl (lv_at hl 0 rfl) ?_
  refine gf_12_5 C hw tM_0 kw_1023 dX12_here_1 ?_
  refine lv_aload_n hx hb dX12_here_4 rfl (lv_at hl 0 rfl) ?_
  refine gf_12_6 C hw tM_0 kw_1024 dX12_here_5 ?_
  refine lv_icmp_ge (tgt := 26) hx hb dX12_here_8 (by decide) (fun c_1 => ?_) (fun c_1 => ?_)
  · replace h := it_at h c_1
    refine lv_iconst (v := (-1)) hx hb dX12_here_26 (by decide) ?_
    obtain ⟨rfl, rfl⟩ := ret_at h
    exact q_iret C hw dX12_here_27
  · replace h := ie_at h c_1
    refine lv_aload_n hx hb dX12_here_11 rfl (lv_at hl 0 rfl) ?_
    refine gf_12_1 C hw tM_0 kw_1019 dX12_here_12 ?_
    refine lv_bipush (v := 11) hx hb dX12_here_15 (by decide) ?_
    refine lv_aload_n hx hb dX12_here_17 rfl (lv_at hl 0 rfl) ?_
    refine gf_12_5 C hw tM_0 kw_1023 dX12_here_18 ?_
    refine lv_iadd hx hb dX12_here_21 ?_
    obtain ⟨g_2, h⟩ := gd_at h
    refine q_iald C hw tM_1 g_2 dX12_here_22 ?_
    refine lv_goto (tgt := 27) hx hb dX12_here_23 (by decide) ?_
    obtain ⟨rfl, rfl⟩ := ret_at h
    exact q_iret C hw dX12_here_27
def f_X12_must_21 (s1 : Int32) (σ : Mem) : Option Mem :=
  gd (iz s1) <|
  lt (sI σ 0 7 s1) fun σ_6 =>
  if (gI σ_6 0 7) = 0 then
    (lt (sI σ_6 0 5 ((gI σ_6 0 5) + (1 : Int32))) fun σ_9 =>
    some σ_9)
  else
    lt (sI σ_6 0 5 ((gI σ_6 0 5) + (0 : Int32))) fun σ_10 =>
    some σ_10
def f_X12_must_16 (σ : Mem) : Option Mem :=
  f_X12_must_21 (1 : Int32) σ
def f_X12_must (p1 : Int32) (σ : Mem) : Option Mem :=
  if (gI σ 0 7) = 0 then
    (bd (f_X12_here σ) fun r_2 σ_3 =>
    if r_2 = p1 then
      (f_X12_must_21 (0 : Int32) σ_3)
    else
      f_X12_must_16  σ_3)
  else
    f_X12_must_16  σ
set_option maxHeartbeats 4000000 in
set_option maxRecDepth 100000 in
theorem w_X12_must_21 {p : Program} {l : Launch} {e : Env} {s : State} {m : MethodId} {args : Array Value} {below : List Frame} {meth : Method} {c : Code} {E : EV} {τ : Mem} (C : Cx E p s m args meth c cX12_must 2 none RX12) : ∀ (s1 : Int32) (σ : Mem) (H : Heap) (locs : List Loc) (ls : Array Slot) (hw : Wd TM E σ s H locs) (hl : lv_has ls 2 [(0, .ref (E.2.1 (0)))]) (h : f_X12_must_21 s1 σ = some τ), W p l e { frames := 1, cells := 0, slots := 0, locals := 20 } s m args below meth c H locs 0 0 (MQ below (QV TM E τ) args s 0 0 E.2.2.1) (F0 m 21 ls [.int s1, .ref (E.2.1 (0))]) := by
  obtain ⟨hx, hb, hml, hown, hts, hK, hSt, hlk, hr⟩ := id C
  intro s1 σ H locs ls hw hl h
  unfold f_X12_must_21 at h
  obtain ⟨g_7, h⟩ := gd_at h
  obtain ⟨σ_6, eσ_6, h⟩ := lt_at h
  refine pf_12_7 C hw tM_0 kw_1025 g_7 eσ_6 dX12_must_21 (fun H locs hw => ?_)
  refine lv_aload_n hx hb dX12_must_24 rfl (lv_at hl 0 rfl) ?_
  refine lv_dup hx hb dX12_must_25 rfl ?_
  refine gf_12_5 C hw tM_0 kw_1023 dX12_must_26 ?_
  refine lv_aload_n hx hb dX12_must_29 rfl (lv_at hl 0 rfl) ?_
  refine gf_12_7 C hw tM_0 kw_1025 dX12_must_30 ?_
  refine lv_if_eq (tgt := 40) hx hb dX12_must_33 (by decide) (fun c_8 => ?_) (fun c_8 => ?_)
  · replace h := it_at h c_8
    refine lv_iconst (v := 1) hx hb dX12_must_40 (by decide) ?_
    refine lv_iadd hx hb dX12_must_41 ?_
    obtain ⟨σ_9, eσ_9, h⟩ := lt_at h
    refine pf_12_5 C hw tM_0 kw_1023 eσ_9 dX12_must_42 (fun H locs hw => ?_)
    cases h
    exact q_vret C hw dX12_must_45
  · replace h := ie_at h c_8
    refine lv_iconst (v := 0) hx hb dX12_must_36 (by decide) ?_
    refine lv_goto (tgt := 41) hx hb dX12_must_37 (by decide) ?_
    refine lv_iadd hx hb dX12_must_41 ?_
    obtain ⟨σ_10, eσ_10, h⟩ := lt_at h
    refine pf_12_5 C hw tM_0 kw_1023 eσ_10 dX12_must_42 (fun H locs hw => ?_)
    cases h
    exact q_vret C hw dX12_must_45
set_option maxHeartbeats 4000000 in
set_option maxRecDepth 100000 in
theorem w_X12_must_16 {p : Program} {l : Launch} {e : Env} {s : State} {m : MethodId} {args : Array Value} {below : List Frame} {meth : Method} {c : Code} {E : EV} {τ : Mem} (C : Cx E p s m args meth c cX12_must 2 none RX12) : ∀ (σ : Mem) (H : Heap) (locs : List Loc) (ls : Array Slot) (hw : Wd TM E σ s H locs) (hl : lv_has ls 2 [(0, .ref (E.2.1 (0)))]) (h : f_X12_must_16  σ = some τ), W p l e { frames := 1, cells := 0, slots := 0, locals := 20 } s m args below meth c H locs 0 0 (MQ below (QV TM E τ) args s 0 0 E.2.2.1) (F0 m 16 ls [.ref (E.2.1 (0))]) := by
  obtain ⟨hx, hb, hml, hown, hts, hK, hSt, hlk, hr⟩ := id C
  intro  σ H locs ls hw hl h
  unfold f_X12_must_16 at h
  refine lv_iconst (v := 1) hx hb dX12_must_16 (by decide) ?_
  refine lv_goto (tgt := 21) hx hb dX12_must_17 (by decide) ?_
  exact w_X12_must_21 C _ _ _ _ _ hw (lv_sub hl [0] rfl) h
set_option maxHeartbeats 4000000 in
set_option maxRecDepth 100000 in
theorem m_X12_must (l : Launch) (E : EV) (p1 : Int32) (σ : Mem) (τ : Mem) (h : f_X12_must p1 σ = some τ) : MV TM l E yX12_must cX12_must 2 none 1 20 [.ref (E.2.1 (0)), .int p1] σ τ := by
  refine mt_start RX12 (by decide +kernel) rfl (Nat.le_of_ble_eq_true rfl) (fun p e s m args below meth c ls C hw hl => ?_)
  replace hl : lv_has ls 2 [(0, .ref (E.2.1 (0))), (1, .int p1)] := hl
  obtain ⟨hx, hb, hml, hown, hts, hK, hSt, hlk, hr⟩ := id C
  unfold f_X12_must at h
  refine lv_aload_n hx hb dX12_must_0 rfl (lv_at hl 0 rfl) ?_
  refine lv_aload_n hx hb dX12_must_1 rfl (lv_at hl 0 rfl) ?_
  refine gf_12_7 C hw tM_0 kw_1025 dX12_must_2 ?_
  refine lv_if_ne (tgt := 16) hx hb dX12_must_5 (by decide) (fun c_1 => ?_) (fun c_1 => ?_)
  · replace h := ie_at h c_1
    exact w_X12_must_16 C  _ _ _ _ hw (lv_sub hl [0] rfl) h
  · replace h := it_at h c_1
    refine lv_aload_n hx hb dX12_must_8 rfl (lv_at hl 0 rfl) ?_
    obtain ⟨r_2, σ_3, h_4, h⟩ := bd_at h
    refine q_afterI hw (q_runV C hw hl.1 (As := []) (rest := [.ref (E.2.1 (0))]) (m_X12_here l E  σ r_2 σ_3 h_4) yq_X12_here tM_0 rfl rfl kw_1154 ⟨Nat.le_of_ble_eq_true rfl, Nat.le_of_ble_eq_true rfl⟩ rfl (Nat.le_of_ble_eq_true rfl) ⟨Nat.zero_le _, Nat.zero_le _⟩ dX12_must_9) (fun H locs hw => ?_)
    refine lv_iload_n hx hb dX12_must_12 rfl (lv_at hl 1 rfl) ?_
    refine lv_icmp_eq (tgt := 20) hx hb dX12_must_13 (by decide) (fun c_5 => ?_) (fun c_5 => ?_)
    · replace h := it_at h c_5
      refine lv_iconst (v := 0) hx hb dX12_must_20 (by decide) ?_
      exact w_X12_must_21 C _ _ _ _ _ hw (lv_sub hl [0] rfl) h
    · replace h := ie_at h c_5
      exact w_X12_must_16 C  _ _ _ _ hw (lv_sub hl [0] rfl) h
def f_X12_spells_2 (w : Nat) (k2 : Int32 → Mem → Option Mem) (x2 : Int32) (σ : Mem) : Option Mem :=
  bd (f_J0_length_8abf5 w σ) fun r_1 σ_2 =>
  if r_1 ≤ x2 then
    (some σ_2)
  else
    bd (f_J0_charAt_5068e w x2 σ_2) fun r_5 σ_6 =>
    bv (f_X12_must r_5 σ_6) fun σ_9 =>
    lt (x2 + (1 : Int32)) fun x2_11 =>
    k2 x2_11 σ_9
def f_X12_spells (w : Nat) (σ : Mem) : Option Mem :=
  fx2 (f_X12_spells_2 w) FU (0 : Int32) σ
set_option maxHeartbeats 4000000 in
set_option maxRecDepth 100000 in
theorem w_X12_spells_2 {p : Program} {l : Launch} {e : Env} {s : State} {m : MethodId} {args : Array Value} {below : List Frame} {meth : Method} {c : Code} {E : EV} {τ : Mem} (C : Cx E p s m args meth c cX12_spells 3 none RX12) (w : Nat) (hs : w < 11) : ∀ (n : Nat) (x2 : Int32) (σ : Mem) (H : Heap) (locs : List Loc) (ls : Array Slot) (hw : Wd TM E σ s H locs) (hl : lv_has ls 3 [(0, .ref (E.2.1 (0))), (1, .ref (E.2.2.2.2 (2 + w))), (2, .int x2)]) (h : fx2 (f_X12_spells_2 w) n x2 σ = some τ), W p l e { frames := 4, cells := 0, slots := 0, locals := 85 } s m args below meth c H locs 0 0 (MQ below (QV TM E τ) args s 0 0 E.2.2.1) (F0 m 2 ls []) := by
  obtain ⟨hx, hb, hml, hown, hts, hK, hSt, hlk, hr⟩ := id C
  intro n
  induction n with
  | zero =>
    intro x2 σ H locs ls hw hl h
    have h : none = some τ := h
    cases h
  | succ n hk2 =>
    intro x2 σ H locs ls hw hl h
    replace h : f_X12_spells_2 w (fx2 (f_X12_spells_2 w) n) x2 σ = some τ := h
    unfold f_X12_spells_2 at h
    refine lv_iload_n hx hb dX12_spells_2 rfl (lv_at hl 2 rfl) ?_
    refine lv_aload_n hx hb dX12_spells_3 rfl (lv_at hl 1 rfl) ?_
    obtain ⟨r_1, σ_2, h_3, h⟩ := bd_at h
    refine q_afterI hw (q_runW C hw hl.1 hs (As := []) (rest := [.int x2]) (m_J0_length_8abf5 l E w hs σ r_1 σ_2 h_3) yq_J0_length_8abf5 rfl kw_1167 ⟨Nat.le_of_ble_eq_true rfl, Nat.le_of_ble_eq_true rfl⟩ rfl (Nat.le_of_ble_eq_true rfl) ⟨Nat.zero_le _, Nat.zero_le _⟩ dX12_spells_4) (fun H locs hw => ?_)
    refine lv_icmp_ge (tgt := 25) hx hb dX12_spells_7 (by decide) (fun c_4 => ?_) (fun c_4 => ?_)
    · replace h := it_at h c_4
      cases h
      exact q_vret C hw dX12_spells_25
    · replace h := ie_at h c_4
      refine lv_aload_n hx hb dX12_spells_10 rfl (lv_at hl 0 rfl) ?_
      refine lv_aload_n hx hb dX12_spells_11 rfl (lv_at hl 1 rfl) ?_
      refine lv_iload_n hx hb dX12_spells_12 rfl (lv_at hl 2 rfl) ?_
      obtain ⟨r_5, σ_6, h_7, h⟩ := bd_at h
      refine q_afterI hw (q_runW C hw hl.1 hs (As := [.int x2]) (rest := [.ref (E.2.1 (0))]) (m_J0_charAt_5068e l E w hs x2 σ_2 r_5 σ_6 h_7) yq_J0_charAt_5068e rfl kw_1168 ⟨Nat.le_of_ble_eq_true rfl, Nat.le_of_ble_eq_true rfl⟩ rfl (Nat.le_of_ble_eq_true rfl) ⟨Nat.zero_le _, Nat.zero_le _⟩ dX12_spells_13) (fun H locs hw => ?_)
      obtain ⟨σ_9, h_10, h⟩ := bv_at h
      refine q_afterV hw (q_runV C hw hl.1 (As := [.int r_5]) (rest := []) (m_X12_must l E r_5 σ_6 σ_9 h_10) yq_X12_must tM_0 rfl rfl kw_1169 ⟨Nat.le_of_ble_eq_true rfl, Nat.le_of_ble_eq_true rfl⟩ rfl (Nat.le_of_ble_eq_true rfl) ⟨Nat.zero_le _, Nat.zero_le _⟩ dX12_spells_16) (fun H locs hw => ?_)
      obtain ⟨x2_11, ex2_11, h⟩ := lt_at h
      refine lv_iinc (v := x2_11) (lv' := [(2, .int x2_11), (0, .ref (E.2.1 (0))), (1, .ref (E.2.2.2.2 (2 + w)))]) hx hb dX12_spells_19 hl (k := 2) rfl (by rw [ex2_11]; rfl) (by decide) rfl (fun ls hl => ?_)
      refine lv_goto (tgt := 2) hx hb dX12_spells_22 (by decide) ?_
      exact hk2 _ _ _ _ _ hw (lv_sub hl [1, 2, 0] rfl) h
set_option maxHeartbeats 4000000 in
set_option maxRecDepth 100000 in
theorem m_X12_spells (l : Launch) (E : EV) (w : Nat) (hs : w < 11) (σ : Mem) (τ : Mem) (h : f_X12_spells w σ = some τ) : MV TM l E yX12_spells cX12_spells 3 none 4 85 [.ref (E.2.1 (0)), .ref (E.2.2.2.2 (2 + w))] σ τ := by
  refine mt_start RX12 (by decide +kernel) rfl (Nat.le_of_ble_eq_true rfl) (fun p e s m args below meth c ls C hw hl => ?_)
  replace hl : lv_has ls 3 [(0, .ref (E.2.1 (0))), (1, .ref (E.2.2.2.2 (2 + w)))] := hl
  obtain ⟨hx, hb, hml, hown, hts, hK, hSt, hlk, hr⟩ := id C
  unfold f_X12_spells at h
  refine lv_iconst (v := 0) hx hb dX12_spells_0 (by decide) ?_
  refine lv_istore_n (lv' := [(2, .int (0 : Int32)), (0, .ref (E.2.1 (0))), (1, .ref (E.2.2.2.2 (2 + w)))]) hx hb dX12_spells_1 rfl hl (by decide) rfl (fun ls hl => ?_)
  exact w_X12_spells_2 C w hs _ _ _ _ _ _ hw (lv_sub hl [1, 2, 0] rfl) h
def f_X12_in (p0 : Int32) (p1 : Int32) (p2 : Int32) (σ : Mem) : Option (Int32 × Mem) :=
  if p0 < p1 then
    (some ((0 : Int32), σ))
  else
    if p2 < p0 then
      (some ((0 : Int32), σ))
    else
      some ((1 : Int32), σ)
set_option maxHeartbeats 4000000 in
set_option maxRecDepth 100000 in
theorem m_X12_in (l : Launch) (E : EV) (p0 : Int32) (p1 : Int32) (p2 : Int32) (σ : Mem) (rr : Int32) (τ : Mem) (h : f_X12_in p0 p1 p2 σ = some (rr, τ)) : MI TM l E yX12_in cX12_in 3 (some .boolean) 0 0 [.int p0, .int p1, .int p2] σ rr τ := by
  refine mt_start RX12 (by decide +kernel) rfl (Nat.le_of_ble_eq_true rfl) (fun p e s m args below meth c ls C hw hl => ?_)
  replace hl : lv_has ls 3 [(0, .int p0), (1, .int p1), (2, .int p2)] := hl
  obtain ⟨hx, hb, hml, hown, hts, hK, hSt, hlk, hr⟩ := id C
  unfold f_X12_in at h
  refine lv_iload_n hx hb dX12_in_0 rfl (lv_at hl 0 rfl) ?_
  refine lv_iload_n hx hb dX12_in_1 rfl (lv_at hl 1 rfl) ?_
  refine lv_icmp_lt (tgt := 14) hx hb dX12_in_2 (by decide) (fun c_1 => ?_) (fun c_1 => ?_)
  · replace h := it_at h c_1
    refine lv_iconst (v := 0) hx hb dX12_in_14 (by decide) ?_
    obtain ⟨rfl, rfl⟩ := ret_at h
    exact q_zret C (by decide) hw dX12_in_15
  · replace h := ie_at h c_1
    refine lv_iload_n hx hb dX12_in_5 rfl (lv_at hl 0 rfl) ?_
    refine lv_iload_n hx hb dX12_in_6 rfl (lv_at hl 2 rfl) ?_
    refine lv_icmp_gt (tgt := 14) hx hb dX12_in_7 (by decide) (fun c_2 => ?_) (fun c_2 => ?_)
    · replace h := it_at h c_2
      refine lv_iconst (v := 0) hx hb dX12_in_14 (by decide) ?_
      obtain ⟨rfl, rfl⟩ := ret_at h
      exact q_zret C (by decide) hw dX12_in_15
    · replace h := ie_at h c_2
      refine lv_iconst (v := 1) hx hb dX12_in_10 (by decide) ?_
      refine lv_goto (tgt := 15) hx hb dX12_in_11 (by decide) ?_
      obtain ⟨rfl, rfl⟩ := ret_at h
      exact q_zret C (by decide) hw dX12_in_15
def f_X12_figures_68 (k34 : Int32 → Int32 → Mem → Option (Int32 × Mem)) (x1 : Int32) (x2 : Int32) (σ : Mem) : Option (Int32 × Mem) :=
  bd (f_X12_here σ) fun r_22 σ_23 =>
  lt ((((10 : Int32) * x1) + r_22) - (48 : Int32)) fun x1_25 =>
  lt (sI σ_23 0 5 ((gI σ_23 0 5) + (1 : Int32))) fun σ_26 =>
  lt (x2 + (1 : Int32)) fun x2_27 =>
  k34 x1_25 x2_27 σ_26
def f_X12_figures_34 (k34 : Int32 → Int32 → Mem → Option (Int32 × Mem)) (x1 : Int32) (x2 : Int32) (σ : Mem) : Option (Int32 × Mem) :=
  if (2 : Int32) ≤ x2 then
    (some (x1, σ))
  else
    if (gI σ 0 7) = 0 then
      (bd (f_X12_here σ) fun r_13 σ_14 =>
      bd (f_X12_in r_13 (48 : Int32) (57 : Int32) σ_14) fun r_16 σ_17 =>
      if r_16 = 0 then
        (some (x1, σ_17))
      else
        if x2 = 0 then
          (f_X12_figures_68 k34 x1 x2 σ_17)
        else
          if x1 ≤ 0 then
            (some (x1, σ_17))
          else
            f_X12_figures_68 k34 x1 x2 σ_17)
    else
      some (x1, σ)
def f_X12_figures_27 (s1 : Int32) (σ : Mem) : Option (Int32 × Mem) :=
  gd (iz s1) <|
  lt (sI σ 0 7 s1) fun σ_9 =>
  fx3 (f_X12_figures_34) FU (0 : Int32) (0 : Int32) σ_9
def f_X12_figures_22 (σ : Mem) : Option (Int32 × Mem) :=
  f_X12_figures_27 (1 : Int32) σ
def f_X12_figures (σ : Mem) : Option (Int32 × Mem) :=
  if (gI σ 0 7) = 0 then
    (bd (f_X12_here σ) fun r_2 σ_3 =>
    bd (f_X12_in r_2 (48 : Int32) (57 : Int32) σ_3) fun r_5 σ_6 =>
    if r_5 = 0 then
      (f_X12_figures_22  σ_6)
    else
      f_X12_figures_27 (0 : Int32) σ_6)
  else
    f_X12_figures_22  σ
set_option maxHeartbeats 4000000 in
set_option maxRecDepth 100000 in
theorem w_X12_figures_68 {p : Program} {l : Launch} {e : Env} {s : State} {m : MethodId} {args : Array Value} {below : List Frame} {meth : Method} {c : Code} {E : EV} {rr : Int32} {τ : Mem} (C : Cx E p s m args meth c cX12_figures 3 (some .int) RX12) (k34 : Int32 → Int32 → Mem → Option (Int32 × Mem)) (hk34 : ∀ (x1 : Int32) (x2 : Int32) (σ : Mem) (H : Heap) (locs : List Loc) (ls : Array Slot) (hw : Wd TM E σ s H locs) (hl : lv_has ls 3 [(0, .ref (E.2.1 (0))), (1, .int x1), (2, .int x2)]) (h : k34 x1 x2 σ = some (rr, τ)), W p l e { frames := 1, cells := 0, slots := 0, locals := 22 } s m args below meth c H locs 0 0 (MQ below (QI TM E rr τ) args s 0 0 E.2.2.1) (F0 m 34 ls [])) : ∀ (x1 : Int32) (x2 : Int32) (σ : Mem) (H : Heap) (locs : List Loc) (ls : Array Slot) (hw : Wd TM E σ s H locs) (hl : lv_has ls 3 [(0, .ref (E.2.1 (0))), (1, .int x1), (2, .int x2)]) (h : f_X12_figures_68 k34 x1 x2 σ = some (rr, τ)), W p l e { frames := 1, cells := 0, slots := 0, locals := 22 } s m args below meth c H locs 0 0 (MQ below (QI TM E rr τ) args s 0 0 E.2.2.1) (F0 m 68 ls []) := by
  obtain ⟨hx, hb, hml, hown, hts, hK, hSt, hlk, hr⟩ := id C
  intro x1 x2 σ H locs ls hw hl h
  unfold f_X12_figures_68 at h
  refine lv_bipush (v := 10) hx hb dX12_figures_68 (by decide) ?_
  refine lv_iload_n hx hb dX12_figures_70 rfl (lv_at hl 1 rfl) ?_
  refine lv_imul hx hb dX12_figures_71 ?_
  refine lv_aload_n hx hb dX12_figures_72 rfl (lv_at hl 0 rfl) ?_
  obtain ⟨r_22, σ_23, h_24, h⟩ := bd_at h
  refine q_afterI hw (q_runV C hw hl.1 (As := []) (rest := [.int ((10 : Int32) * x1)]) (m_X12_here l E  σ r_22 σ_23 h_24) yq_X12_here tM_0 rfl rfl kw_1154 ⟨Nat.le_of_ble_eq_true rfl, Nat.le_of_ble_eq_true rfl⟩ rfl (Nat.le_of_ble_eq_true rfl) ⟨Nat.zero_le _, Nat.zero_le _⟩ dX12_figures_73) (fun H locs hw => ?_)
  refine lv_iadd hx hb dX12_figures_76 ?_
  refine lv_bipush (v := 48) hx hb dX12_figures_77 (by decide) ?_
  refine lv_isub hx hb dX12_figures_79 ?_
  obtain ⟨x1_25, ex1_25, h⟩ := lt_at h
  refine q_top ex1_25 ?_
  refine lv_istore_n (lv' := [(1, .int x1_25), (0, .ref (E.2.1 (0))), (2, .int x2)]) hx hb dX12_figures_80 rfl hl (by decide) rfl (fun ls hl => ?_)
  refine lv_aload_n hx hb dX12_figures_81 rfl (lv_at hl 1 rfl) ?_
  refine lv_dup hx hb dX12_figures_82 rfl ?_
  refine gf_12_5 C hw tM_0 kw_1023 dX12_figures_83 ?_
  refine lv_iconst (v := 1) hx hb dX12_figures_86 (by decide) ?_
  refine lv_iadd hx hb dX12_figures_87 ?_
  obtain ⟨σ_26, eσ_26, h⟩ := lt_at h
  refine pf_12_5 C hw tM_0 kw_1023 eσ_26 dX12_figures_88 (fun H locs hw => ?_)
  obtain ⟨x2_27, ex2_27, h⟩ := lt_at h
  refine lv_iinc (v := x2_27) (lv' := [(2, .int x2_27), (1, .int x1_25), (0, .ref (E.2.1 (0)))]) hx hb dX12_figures_91 hl (k := 2) rfl (by rw [ex2_27]; rfl) (by decide) rfl (fun ls hl => ?_)
  refine lv_goto (tgt := 34) hx hb dX12_figures_94 (by decide) ?_
  exact hk34 _ _ _ _ _ _ hw (lv_sub hl [2, 1, 0] rfl) h
set_option maxHeartbeats 4000000 in
set_option maxRecDepth 100000 in
theorem w_X12_figures_34 {p : Program} {l : Launch} {e : Env} {s : State} {m : MethodId} {args : Array Value} {below : List Frame} {meth : Method} {c : Code} {E : EV} {rr : Int32} {τ : Mem} (C : Cx E p s m args meth c cX12_figures 3 (some .int) RX12) : ∀ (n : Nat) (x1 : Int32) (x2 : Int32) (σ : Mem) (H : Heap) (locs : List Loc) (ls : Array Slot) (hw : Wd TM E σ s H locs) (hl : lv_has ls 3 [(0, .ref (E.2.1 (0))), (1, .int x1), (2, .int x2)]) (h : fx3 (f_X12_figures_34) n x1 x2 σ = some (rr, τ)), W p l e { frames := 1, cells := 0, slots := 0, locals := 22 } s m args below meth c H locs 0 0 (MQ below (QI TM E rr τ) args s 0 0 E.2.2.1) (F0 m 34 ls []) := by
  obtain ⟨hx, hb, hml, hown, hts, hK, hSt, hlk, hr⟩ := id C
  intro n
  induction n with
  | zero =>
    intro x1 x2 σ H locs ls hw hl h
    have h : none = some (rr, τ) := h
    cases h
  | succ n hk34 =>
    intro x1 x2 σ H locs ls hw hl h
    replace h : f_X12_figures_34 (fx3 (f_X12_figures_34) n) x1 x2 σ = some (rr, τ) := h
    unfold f_X12_figures_34 at h
    refine lv_iload_n hx hb dX12_figures_34 rfl (lv_at hl 2 rfl) ?_
    refine lv_iconst (v := 2) hx hb dX12_figures_35 (by decide) ?_
    refine lv_icmp_ge (tgt := 97) hx hb dX12_figures_36 (by decide) (fun c_11 => ?_) (fun c_11 => ?_)
    · replace h := it_at h c_11
      refine lv_iload_n hx hb dX12_figures_97 rfl (lv_at hl 1 rfl) ?_
      obtain ⟨rfl, rfl⟩ := ret_at h
      exact q_iret C hw dX12_figures_98
    · replace h := ie_at h c_11
      refine lv_aload_n hx hb dX12_figures_39 rfl (lv_at hl 0 rfl) ?_
      refine gf_12_7 C hw tM_0 kw_1025 dX12_figures_40 ?_
      refine lv_if_ne (tgt := 97) hx hb dX12_figures_43 (by decide) (fun c_12 => ?_) (fun c_12 => ?_)
      · replace h := ie_at h c_12
        refine lv_iload_n hx hb dX12_figures_97 rfl (lv_at hl 1 rfl) ?_
        obtain ⟨rfl, rfl⟩ := ret_at h
        exact q_iret C hw dX12_figures_98
      · replace h := it_at h c_12
        refine lv_aload_n hx hb dX12_figures_46 rfl (lv_at hl 0 rfl) ?_
        obtain ⟨r_13, σ_14, h_15, h⟩ := bd_at h
        refine q_afterI hw (q_runV C hw hl.1 (As := []) (rest := []) (m_X12_here l E  σ r_13 σ_14 h_15) yq_X12_here tM_0 rfl rfl kw_1154 ⟨Nat.le_of_ble_eq_true rfl, Nat.le_of_ble_eq_true rfl⟩ rfl (Nat.le_of_ble_eq_true rfl) ⟨Nat.zero_le _, Nat.zero_le _⟩ dX12_figures_47) (fun H locs hw => ?_)
        refine lv_bipush (v := 48) hx hb dX12_figures_50 (by decide) ?_
        refine lv_bipush (v := 57) hx hb dX12_figures_52 (by decide) ?_
        obtain ⟨r_16, σ_17, h_18, h⟩ := bd_at h
        refine q_afterI hw (q_runS C hw hl.1 (As := [.int r_13, .int (48 : Int32), .int (57 : Int32)]) (rest := []) (m_X12_in l E r_13 (48 : Int32) (57 : Int32) σ_14 r_16 σ_17 h_18) yq_X12_in kw_1142 ⟨Nat.le_of_ble_eq_true rfl, Nat.le_of_ble_eq_true rfl⟩ rfl (Nat.le_of_ble_eq_true rfl) ⟨Nat.zero_le _, Nat.zero_le _⟩ dX12_figures_54) (fun H locs hw => ?_)
        refine lv_if_eq (tgt := 97) hx hb dX12_figures_57 (by decide) (fun c_19 => ?_) (fun c_19 => ?_)
        · replace h := it_at h c_19
          refine lv_iload_n hx hb dX12_figures_97 rfl (lv_at hl 1 rfl) ?_
          obtain ⟨rfl, rfl⟩ := ret_at h
          exact q_iret C hw dX12_figures_98
        · replace h := ie_at h c_19
          refine lv_iload_n hx hb dX12_figures_60 rfl (lv_at hl 2 rfl) ?_
          refine lv_if_eq (tgt := 68) hx hb dX12_figures_61 (by decide) (fun c_20 => ?_) (fun c_20 => ?_)
          · replace h := it_at h c_20
            exact w_X12_figures_68 C _ hk34 _ _ _ _ _ _ hw (lv_sub hl [0, 1, 2] rfl) h
          · replace h := ie_at h c_20
            refine lv_iload_n hx hb dX12_figures_64 rfl (lv_at hl 1 rfl) ?_
            refine lv_if_le (tgt := 97) hx hb dX12_figures_65 (by decide) (fun c_21 => ?_) (fun c_21 => ?_)
            · replace h := it_at h c_21
              refine lv_iload_n hx hb dX12_figures_97 rfl (lv_at hl 1 rfl) ?_
              obtain ⟨rfl, rfl⟩ := ret_at h
              exact q_iret C hw dX12_figures_98
            · replace h := ie_at h c_21
              exact w_X12_figures_68 C _ hk34 _ _ _ _ _ _ hw (lv_sub hl [0, 1, 2] rfl) h
set_option maxHeartbeats 4000000 in
set_option maxRecDepth 100000 in
theorem w_X12_figures_27 {p : Program} {l : Launch} {e : Env} {s : State} {m : MethodId} {args : Array Value} {below : List Frame} {meth : Method} {c : Code} {E : EV} {rr : Int32} {τ : Mem} (C : Cx E p s m args meth c cX12_figures 3 (some .int) RX12) : ∀ (s1 : Int32) (σ : Mem) (H : Heap) (locs : List Loc) (ls : Array Slot) (hw : Wd TM E σ s H locs) (hl : lv_has ls 3 [(0, .ref (E.2.1 (0)))]) (h : f_X12_figures_27 s1 σ = some (rr, τ)), W p l e { frames := 1, cells := 0, slots := 0, locals := 22 } s m args below meth c H locs 0 0 (MQ below (QI TM E rr τ) args s 0 0 E.2.2.1) (F0 m 27 ls [.int s1, .ref (E.2.1 (0))]) := by
  obtain ⟨hx, hb, hml, hown, hts, hK, hSt, hlk, hr⟩ := id C
  intro s1 σ H locs ls hw hl h
  unfold f_X12_figures_27 at h
  obtain ⟨g_10, h⟩ := gd_at h
  obtain ⟨σ_9, eσ_9, h⟩ := lt_at h
  refine pf_12_7 C hw tM_0 kw_1025 g_10 eσ_9 dX12_figures_27 (fun H locs hw => ?_)
  refine lv_iconst (v := 0) hx hb dX12_figures_30 (by decide) ?_
  refine lv_istore_n (lv' := [(1, .int (0 : Int32)), (0, .ref (E.2.1 (0)))]) hx hb dX12_figures_31 rfl hl (by decide) rfl (fun ls hl => ?_)
  refine lv_iconst (v := 0) hx hb dX12_figures_32 (by decide) ?_
  refine lv_istore_n (lv' := [(2, .int (0 : Int32)), (1, .int (0 : Int32)), (0, .ref (E.2.1 (0)))]) hx hb dX12_figures_33 rfl hl (by decide) rfl (fun ls hl => ?_)
  exact w_X12_figures_34 C _ _ _ _ _ _ _ hw (lv_sub hl [2, 1, 0] rfl) h
set_option maxHeartbeats 4000000 in
set_option maxRecDepth 100000 in
theorem w_X12_figures_22 {p : Program} {l : Launch} {e : Env} {s : State} {m : MethodId} {args : Array Value} {below : List Frame} {meth : Method} {c : Code} {E : EV} {rr : Int32} {τ : Mem} (C : Cx E p s m args meth c cX12_figures 3 (some .int) RX12) : ∀ (σ : Mem) (H : Heap) (locs : List Loc) (ls : Array Slot) (hw : Wd TM E σ s H locs) (hl : lv_has ls 3 [(0, .ref (E.2.1 (0)))]) (h : f_X12_figures_22  σ = some (rr, τ)), W p l e { frames := 1, cells := 0, slots := 0, locals := 22 } s m args below meth c H locs 0 0 (MQ below (QI TM E rr τ) args s 0 0 E.2.2.1) (F0 m 22 ls [.ref (E.2.1 (0))]) := by
  obtain ⟨hx, hb, hml, hown, hts, hK, hSt, hlk, hr⟩ := id C
  intro  σ H locs ls hw hl h
  unfold f_X12_figures_22 at h
  refine lv_iconst (v := 1) hx hb dX12_figures_22 (by decide) ?_
  refine lv_goto (tgt := 27) hx hb dX12_figures_23 (by decide) ?_
  exact w_X12_figures_27 C _ _ _ _ _ hw (lv_sub hl [0] rfl) h
set_option maxHeartbeats 4000000 in
set_option maxRecDepth 100000 in
theorem m_X12_figures (l : Launch) (E : EV) (σ : Mem) (rr : Int32) (τ : Mem) (h : f_X12_figures  σ = some (rr, τ)) : MI TM l E yX12_figures cX12_figures 3 (some .int) 1 22 [.ref (E.2.1 (0))] σ rr τ := by
  refine mt_start RX12 (by decide +kernel) rfl (Nat.le_of_ble_eq_true rfl) (fun p e s m args below meth c ls C hw hl => ?_)
  replace hl : lv_has ls 3 [(0, .ref (E.2.1 (0)))] := hl
  obtain ⟨hx, hb, hml, hown, hts, hK, hSt, hlk, hr⟩ := id C
  unfold f_X12_figures at h
  refine lv_aload_n hx hb dX12_figures_0 rfl (lv_at hl 0 rfl) ?_
  refine lv_aload_n hx hb dX12_figures_1 rfl (lv_at hl 0 rfl) ?_
  refine gf_12_7 C hw tM_0 kw_1025 dX12_figures_2 ?_
  refine lv_if_ne (tgt := 22) hx hb dX12_figures_5 (by decide) (fun c_1 => ?_) (fun c_1 => ?_)
  · replace h := ie_at h c_1
    exact w_X12_figures_22 C  _ _ _ _ hw (lv_sub hl [0] rfl) h
  · replace h := it_at h c_1
    refine lv_aload_n hx hb dX12_figures_8 rfl (lv_at hl 0 rfl) ?_
    obtain ⟨r_2, σ_3, h_4, h⟩ := bd_at h
    refine q_afterI hw (q_runV C hw hl.1 (As := []) (rest := [.ref (E.2.1 (0))]) (m_X12_here l E  σ r_2 σ_3 h_4) yq_X12_here tM_0 rfl rfl kw_1154 ⟨Nat.le_of_ble_eq_true rfl, Nat.le_of_ble_eq_true rfl⟩ rfl (Nat.le_of_ble_eq_true rfl) ⟨Nat.zero_le _, Nat.zero_le _⟩ dX12_figures_9) (fun H locs hw => ?_)
    refine lv_bipush (v := 48) hx hb dX12_figures_12 (by decide) ?_
    refine lv_bipush (v := 57) hx hb dX12_figures_14 (by decide) ?_
    obtain ⟨r_5, σ_6, h_7, h⟩ := bd_at h
    refine q_afterI hw (q_runS C hw hl.1 (As := [.int r_2, .int (48 : Int32), .int (57 : Int32)]) (rest := [.ref (E.2.1 (0))]) (m_X12_in l E r_2 (48 : Int32) (57 : Int32) σ_3 r_5 σ_6 h_7) yq_X12_in kw_1142 ⟨Nat.le_of_ble_eq_true rfl, Nat.le_of_ble_eq_true rfl⟩ rfl (Nat.le_of_ble_eq_true rfl) ⟨Nat.zero_le _, Nat.zero_le _⟩ dX12_figures_16) (fun H locs hw => ?_)
    refine lv_if_ne (tgt := 26) hx hb dX12_figures_19 (by decide) (fun c_8 => ?_) (fun c_8 => ?_)
    · replace h := ie_at h c_8
      refine lv_iconst (v := 0) hx hb dX12_figures_26 (by decide) ?_
      exact w_X12_figures_27 C _ _ _ _ _ hw (lv_sub hl [0] rfl) h
    · replace h := it_at h c_8
      exact w_X12_figures_22 C  _ _ _ _ hw (lv_sub hl [0] rfl) h
def f_X12_emits (p1 : Int32) (σ : Mem) : Option Mem :=
  if (gI σ 0 7) = 0 then
    (gd (ib ((146 : Int32) + (gI σ 0 4)) 1055) <|
    gd (ib (((151 : Int32) + ((140 : Int32) * (gI σ 0 4))) + (gI σ 1 ((146 : Int32) + (gI σ 0 4)).toNatClampNeg)) 1055) <|
    lt (sI σ 1 (((151 : Int32) + ((140 : Int32) * (gI σ 0 4))) + (gI σ 1 ((146 : Int32) + (gI σ 0 4)).toNatClampNeg)).toNatClampNeg p1) fun σ_3 =>
    gd (ib ((146 : Int32) + (gI σ_3 0 4)) 1055) <|
    gd (ib ((146 : Int32) + (gI σ_3 0 4)) 1055) <|
    lt (sI σ_3 1 ((146 : Int32) + (gI σ_3 0 4)).toNatClampNeg ((gI σ_3 1 ((146 : Int32) + (gI σ_3 0 4)).toNatClampNeg) + (1 : Int32))) fun σ_6 =>
    some σ_6)
  else
    some σ
set_option maxHeartbeats 4000000 in
set_option maxRecDepth 100000 in
theorem m_X12_emits (l : Launch) (E : EV) (p1 : Int32) (σ : Mem) (τ : Mem) (h : f_X12_emits p1 σ = some τ) : MV TM l E yX12_emits cX12_emits 2 none 0 0 [.ref (E.2.1 (0)), .int p1] σ τ := by
  refine mt_start RX12 (by decide +kernel) rfl (Nat.le_of_ble_eq_true rfl) (fun p e s m args below meth c ls C hw hl => ?_)
  replace hl : lv_has ls 2 [(0, .ref (E.2.1 (0))), (1, .int p1)] := hl
  obtain ⟨hx, hb, hml, hown, hts, hK, hSt, hlk, hr⟩ := id C
  unfold f_X12_emits at h
  refine lv_aload_n hx hb dX12_emits_0 rfl (lv_at hl 0 rfl) ?_
  refine gf_12_7 C hw tM_0 kw_1025 dX12_emits_1 ?_
  refine lv_if_ne (tgt := 56) hx hb dX12_emits_4 (by decide) (fun c_1 => ?_) (fun c_1 => ?_)
  · replace h := ie_at h c_1
    cases h
    exact q_vret C hw dX12_emits_56
  · replace h := it_at h c_1
    refine lv_aload_n hx hb dX12_emits_7 rfl (lv_at hl 0 rfl) ?_
    refine gf_12_1 C hw tM_0 kw_1019 dX12_emits_8 ?_
    refine lv_sipush (v := 151) hx hb dX12_emits_11 (by decide) ?_
    refine lv_sipush (v := 140) hx hb dX12_emits_14 (by decide) ?_
    refine lv_aload_n hx hb dX12_emits_17 rfl (lv_at hl 0 rfl) ?_
    refine gf_12_4 C hw tM_0 kw_1022 dX12_emits_18 ?_
    refine lv_imul hx hb dX12_emits_21 ?_
    refine lv_iadd hx hb dX12_emits_22 ?_
    refine lv_aload_n hx hb dX12_emits_23 rfl (lv_at hl 0 rfl) ?_
    refine gf_12_1 C hw tM_0 kw_1019 dX12_emits_24 ?_
    refine lv_sipush (v := 146) hx hb dX12_emits_27 (by decide) ?_
    refine lv_aload_n hx hb dX12_emits_30 rfl (lv_at hl 0 rfl) ?_
    refine gf_12_4 C hw tM_0 kw_1022 dX12_emits_31 ?_
    refine lv_iadd hx hb dX12_emits_34 ?_
    obtain ⟨g_2, h⟩ := gd_at h
    refine q_iald C hw tM_1 g_2 dX12_emits_35 ?_
    refine lv_iadd hx hb dX12_emits_36 ?_
    refine lv_iload_n hx hb dX12_emits_37 rfl (lv_at hl 1 rfl) ?_
    obtain ⟨g_4, h⟩ := gd_at h
    obtain ⟨σ_3, eσ_3, h⟩ := lt_at h
    refine q_iast C hw tM_1 g_4 eσ_3 dX12_emits_38 (fun H locs hw => ?_)
    refine lv_aload_n hx hb dX12_emits_39 rfl (lv_at hl 0 rfl) ?_
    refine gf_12_1 C hw tM_0 kw_1019 dX12_emits_40 ?_
    refine lv_sipush (v := 146) hx hb dX12_emits_43 (by decide) ?_
    refine lv_aload_n hx hb dX12_emits_46 rfl (lv_at hl 0 rfl) ?_
    refine gf_12_4 C hw tM_0 kw_1022 dX12_emits_47 ?_
    refine lv_iadd hx hb dX12_emits_50 ?_
    refine lv_dup2_11 hx hb dX12_emits_51 rfl rfl ?_
    obtain ⟨g_5, h⟩ := gd_at h
    refine q_iald C hw tM_1 g_5 dX12_emits_52 ?_
    refine lv_iconst (v := 1) hx hb dX12_emits_53 (by decide) ?_
    refine lv_iadd hx hb dX12_emits_54 ?_
    obtain ⟨g_7, h⟩ := gd_at h
    obtain ⟨σ_6, eσ_6, h⟩ := lt_at h
    refine q_iast C hw tM_1 g_7 eσ_6 dX12_emits_55 (fun H locs hw => ?_)
    cases h
    exact q_vret C hw dX12_emits_56
def f_X12_among_2 (w : Nat) (k2 : Int32 → Mem → Option (Int32 × Mem)) (x2 : Int32) (σ : Mem) : Option (Int32 × Mem) :=
  bd (f_J0_length_8abf5 w σ) fun r_1 σ_2 =>
  if r_1 ≤ x2 then
    (some ((-1 : Int32), σ_2))
  else
    bd (f_X12_here σ_2) fun r_5 σ_6 =>
    bd (f_J0_charAt_5068e w x2 σ_6) fun r_8 σ_9 =>
    if r_5 = r_8 then
      (lt (sI σ_9 0 5 ((gI σ_9 0 5) + (1 : Int32))) fun σ_13 =>
      some (x2, σ_13))
    else
      lt (x2 + (1 : Int32)) fun x2_12 =>
      k2 x2_12 σ_9
def f_X12_among (w : Nat) (σ : Mem) : Option (Int32 × Mem) :=
  fx2 (f_X12_among_2 w) FU (0 : Int32) σ
set_option maxHeartbeats 4000000 in
set_option maxRecDepth 100000 in
theorem w_X12_among_2 {p : Program} {l : Launch} {e : Env} {s : State} {m : MethodId} {args : Array Value} {below : List Frame} {meth : Method} {c : Code} {E : EV} {rr : Int32} {τ : Mem} (C : Cx E p s m args meth c cX12_among 3 (some .int) RX12) (w : Nat) (hs : w < 11) : ∀ (n : Nat) (x2 : Int32) (σ : Mem) (H : Heap) (locs : List Loc) (ls : Array Slot) (hw : Wd TM E σ s H locs) (hl : lv_has ls 3 [(0, .ref (E.2.1 (0))), (1, .ref (E.2.2.2.2 (2 + w))), (2, .int x2)]) (h : fx2 (f_X12_among_2 w) n x2 σ = some (rr, τ)), W p l e { frames := 4, cells := 0, slots := 0, locals := 85 } s m args below meth c H locs 0 0 (MQ below (QI TM E rr τ) args s 0 0 E.2.2.1) (F0 m 2 ls []) := by
  obtain ⟨hx, hb, hml, hown, hts, hK, hSt, hlk, hr⟩ := id C
  intro n
  induction n with
  | zero =>
    intro x2 σ H locs ls hw hl h
    have h : none = some (rr, τ) := h
    cases h
  | succ n hk2 =>
    intro x2 σ H locs ls hw hl h
    replace h : f_X12_among_2 w (fx2 (f_X12_among_2 w) n) x2 σ = some (rr, τ) := h
    unfold f_X12_among_2 at h
    refine lv_iload_n hx hb dX12_among_2 rfl (lv_at hl 2 rfl) ?_
    refine lv_aload_n hx hb dX12_among_3 rfl (lv_at hl 1 rfl) ?_
    obtain ⟨r_1, σ_2, h_3, h⟩ := bd_at h
    refine q_afterI hw (q_runW C hw hl.1 hs (As := []) (rest := [.int x2]) (m_J0_length_8abf5 l E w hs σ r_1 σ_2 h_3) yq_J0_length_8abf5 rfl kw_1167 ⟨Nat.le_of_ble_eq_true rfl, Nat.le_of_ble_eq_true rfl⟩ rfl (Nat.le_of_ble_eq_true rfl) ⟨Nat.zero_le _, Nat.zero_le _⟩ dX12_among_4) (fun H locs hw => ?_)
    refine lv_icmp_ge (tgt := 40) hx hb dX12_among_7 (by decide) (fun c_4 => ?_) (fun c_4 => ?_)
    · replace h := it_at h c_4
      refine lv_iconst (v := (-1)) hx hb dX12_among_40 (by decide) ?_
      obtain ⟨rfl, rfl⟩ := ret_at h
      exact q_iret C hw dX12_among_41
    · replace h := ie_at h c_4
      refine lv_aload_n hx hb dX12_among_10 rfl (lv_at hl 0 rfl) ?_
      obtain ⟨r_5, σ_6, h_7, h⟩ := bd_at h
      refine q_afterI hw (q_runV C hw hl.1 (As := []) (rest := []) (m_X12_here l E  σ_2 r_5 σ_6 h_7) yq_X12_here tM_0 rfl rfl kw_1154 ⟨Nat.le_of_ble_eq_true rfl, Nat.le_of_ble_eq_true rfl⟩ rfl (Nat.le_of_ble_eq_true rfl) ⟨Nat.zero_le _, Nat.zero_le _⟩ dX12_among_11) (fun H locs hw => ?_)
      refine lv_aload_n hx hb dX12_among_14 rfl (lv_at hl 1 rfl) ?_
      refine lv_iload_n hx hb dX12_among_15 rfl (lv_at hl 2 rfl) ?_
      obtain ⟨r_8, σ_9, h_10, h⟩ := bd_at h
      refine q_afterI hw (q_runW C hw hl.1 hs (As := [.int x2]) (rest := [.int r_5]) (m_J0_charAt_5068e l E w hs x2 σ_6 r_8 σ_9 h_10) yq_J0_charAt_5068e rfl kw_1168 ⟨Nat.le_of_ble_eq_true rfl, Nat.le_of_ble_eq_true rfl⟩ rfl (Nat.le_of_ble_eq_true rfl) ⟨Nat.zero_le _, Nat.zero_le _⟩ dX12_among_16) (fun H locs hw => ?_)
      refine lv_icmp_ne (tgt := 34) hx hb dX12_among_19 (by decide) (fun c_11 => ?_) (fun c_11 => ?_)
      · replace h := ie_at h c_11
        obtain ⟨x2_12, ex2_12, h⟩ := lt_at h
        refine lv_iinc (v := x2_12) (lv' := [(2, .int x2_12), (0, .ref (E.2.1 (0))), (1, .ref (E.2.2.2.2 (2 + w)))]) hx hb dX12_among_34 hl (k := 2) rfl (by rw [ex2_12]; rfl) (by decide) rfl (fun ls hl => ?_)
        refine lv_goto (tgt := 2) hx hb dX12_among_37 (by decide) ?_
        exact hk2 _ _ _ _ _ hw (lv_sub hl [1, 2, 0] rfl) h
      · replace h := it_at h c_11
        refine lv_aload_n hx hb dX12_among_22 rfl (lv_at hl 0 rfl) ?_
        refine lv_dup hx hb dX12_among_23 rfl ?_
        refine gf_12_5 C hw tM_0 kw_1023 dX12_among_24 ?_
        refine lv_iconst (v := 1) hx hb dX12_among_27 (by decide) ?_
        refine lv_iadd hx hb dX12_among_28 ?_
        obtain ⟨σ_13, eσ_13, h⟩ := lt_at h
        refine pf_12_5 C hw tM_0 kw_1023 eσ_13 dX12_among_29 (fun H locs hw => ?_)
        refine lv_iload_n hx hb dX12_among_32 rfl (lv_at hl 2 rfl) ?_
        obtain ⟨rfl, rfl⟩ := ret_at h
        exact q_iret C hw dX12_among_33
set_option maxHeartbeats 4000000 in
set_option maxRecDepth 100000 in
theorem m_X12_among (l : Launch) (E : EV) (w : Nat) (hs : w < 11) (σ : Mem) (rr : Int32) (τ : Mem) (h : f_X12_among w σ = some (rr, τ)) : MI TM l E yX12_among cX12_among 3 (some .int) 4 85 [.ref (E.2.1 (0)), .ref (E.2.2.2.2 (2 + w))] σ rr τ := by
  refine mt_start RX12 (by decide +kernel) rfl (Nat.le_of_ble_eq_true rfl) (fun p e s m args below meth c ls C hw hl => ?_)
  replace hl : lv_has ls 3 [(0, .ref (E.2.1 (0))), (1, .ref (E.2.2.2.2 (2 + w)))] := hl
  obtain ⟨hx, hb, hml, hown, hts, hK, hSt, hlk, hr⟩ := id C
  unfold f_X12_among at h
  refine lv_iconst (v := 0) hx hb dX12_among_0 (by decide) ?_
  refine lv_istore_n (lv' := [(2, .int (0 : Int32)), (0, .ref (E.2.1 (0))), (1, .ref (E.2.2.2.2 (2 + w)))]) hx hb dX12_among_1 rfl hl (by decide) rfl (fun ls hl => ?_)
  exact w_X12_among_2 C w hs _ _ _ _ _ _ hw (lv_sub hl [1, 2, 0] rfl) h
def f_X12_every_4 (rc : Mem → Option Mem) (k4 : Mem → Option Mem) (σ : Mem) : Option Mem :=
  if (gI σ 0 7) = 0 then
    (bd (f_X12_here σ) fun r_5 σ_6 =>
    if r_5 = (38 : Int32) then
      (lt (sI σ_6 0 5 ((gI σ_6 0 5) + (1 : Int32))) fun σ_9 =>
      bv (rc σ_9) fun σ_11 =>
      bv (f_X12_emits (-2 : Int32) σ_11) fun σ_14 =>
      k4  σ_14)
    else
      some σ_6)
  else
    some σ
def f_X12_every (rc : Mem → Option Mem) (σ : Mem) : Option Mem :=
  bv (rc σ) fun σ_2 =>
  fx1 (f_X12_every_4 rc) FU  σ_2
set_option maxHeartbeats 4000000 in
set_option maxRecDepth 100000 in
theorem w_X12_every_4 {p : Program} {l : Launch} {e : Env} {s : State} {m : MethodId} {args : Array Value} {below : List Frame} {meth : Method} {c : Code} {E : EV} {τ : Mem} (C : Cx E p s m args meth c cX12_every 1 none RX12) {rc : Mem → Option Mem} {fr lo : Nat} (hF : 40 ≤ fr) (hL : 1200 ≤ lo) (hrc : ∀ (σ : Mem) (τ : Mem), rc σ = some τ → MV TM l E yX12_factor cX12_factor 5 none fr lo [.ref (E.2.1 (0))] σ τ) : ∀ (n : Nat) (σ : Mem) (H : Heap) (locs : List Loc) (ls : Array Slot) (hw : Wd TM E σ s H locs) (hl : lv_has ls 1 [(0, .ref (E.2.1 (0)))]) (h : fx1 (f_X12_every_4 rc) n  σ = some τ), W p l e { frames := fr + 1, cells := 0, slots := 0, locals := lo + 24 } s m args below meth c H locs 0 0 (MQ below (QV TM E τ) args s 0 0 E.2.2.1) (F0 m 4 ls []) := by
  obtain ⟨hx, hb, hml, hown, hts, hK, hSt, hlk, hr⟩ := id C
  intro n
  induction n with
  | zero =>
    intro  σ H locs ls hw hl h
    have h : none = some τ := h
    cases h
  | succ n hk4 =>
    intro  σ H locs ls hw hl h
    replace h : f_X12_every_4 rc (fx1 (f_X12_every_4 rc) n)  σ = some τ := h
    unfold f_X12_every_4 at h
    refine lv_aload_n hx hb dX12_every_4 rfl (lv_at hl 0 rfl) ?_
    refine gf_12_7 C hw tM_0 kw_1025 dX12_every_5 ?_
    refine lv_if_ne (tgt := 43) hx hb dX12_every_8 (by decide) (fun c_4 => ?_) (fun c_4 => ?_)
    · replace h := ie_at h c_4
      cases h
      exact q_vret C hw dX12_every_43
    · replace h := it_at h c_4
      refine lv_aload_n hx hb dX12_every_11 rfl (lv_at hl 0 rfl) ?_
      obtain ⟨r_5, σ_6, h_7, h⟩ := bd_at h
      refine q_afterI hw (q_runV C hw hl.1 (As := []) (rest := []) (m_X12_here l E  σ r_5 σ_6 h_7) yq_X12_here tM_0 rfl rfl kw_1154 ⟨by dsimp only; omega, by dsimp only; omega⟩ rfl (Nat.le_of_ble_eq_true rfl) ⟨Nat.zero_le _, Nat.zero_le _⟩ dX12_every_12) (fun H locs hw => ?_)
      refine lv_bipush (v := 38) hx hb dX12_every_15 (by decide) ?_
      refine lv_icmp_ne (tgt := 43) hx hb dX12_every_17 (by decide) (fun c_8 => ?_) (fun c_8 => ?_)
      · replace h := ie_at h c_8
        cases h
        exact q_vret C hw dX12_every_43
      · replace h := it_at h c_8
        refine lv_aload_n hx hb dX12_every_20 rfl (lv_at hl 0 rfl) ?_
        refine lv_dup hx hb dX12_every_21 rfl ?_
        refine gf_12_5 C hw tM_0 kw_1023 dX12_every_22 ?_
        refine lv_iconst (v := 1) hx hb dX12_every_25 (by decide) ?_
        refine lv_iadd hx hb dX12_every_26 ?_
        obtain ⟨σ_9, eσ_9, h⟩ := lt_at h
        refine pf_12_5 C hw tM_0 kw_1023 eσ_9 dX12_every_27 (fun H locs hw => ?_)
        refine lv_aload_n hx hb dX12_every_30 rfl (lv_at hl 0 rfl) ?_
        obtain ⟨σ_11, h_12, h⟩ := bv_at h
        refine q_afterV hw (q_runV C hw hl.1 (As := []) (rest := []) (hrc  σ_9 σ_11 h_12) yq_X12_factor tM_0 rfl rfl kw_1185 ⟨by dsimp only; omega, by dsimp only; omega⟩ rfl (Nat.le_of_ble_eq_true rfl) ⟨Nat.zero_le _, Nat.zero_le _⟩ dX12_every_31) (fun H locs hw => ?_)
        refine lv_aload_n hx hb dX12_every_34 rfl (lv_at hl 0 rfl) ?_
        refine lv_bipush (v := (-2)) hx hb dX12_every_35 (by decide) ?_
        obtain ⟨σ_14, h_15, h⟩ := bv_at h
        refine q_afterV hw (q_runV C hw hl.1 (As := [.int (-2 : Int32)]) (rest := []) (m_X12_emits l E (-2 : Int32) σ_11 σ_14 h_15) yq_X12_emits tM_0 rfl rfl kw_1189 ⟨by dsimp only; omega, by dsimp only; omega⟩ rfl (Nat.le_of_ble_eq_true rfl) ⟨Nat.zero_le _, Nat.zero_le _⟩ dX12_every_37) (fun H locs hw => ?_)
        refine lv_goto (tgt := 4) hx hb dX12_every_40 (by decide) ?_
        exact hk4  _ _ _ _ hw (lv_sub hl [0] rfl) h
set_option maxHeartbeats 4000000 in
set_option maxRecDepth 100000 in
theorem m_X12_every (l : Launch) (E : EV) (rc : Mem → Option Mem) {fr lo : Nat} (hF : 40 ≤ fr) (hL : 1200 ≤ lo) (hrc : ∀ (σ : Mem) (τ : Mem), rc σ = some τ → MV TM l E yX12_factor cX12_factor 5 none fr lo [.ref (E.2.1 (0))] σ τ) (σ : Mem) (τ : Mem) (h : f_X12_every rc  σ = some τ) : MV TM l E yX12_every cX12_every 1 none (fr + 1) (lo + 24) [.ref (E.2.1 (0))] σ τ := by
  refine mt_start RX12 (by decide +kernel) rfl (Nat.le_of_ble_eq_true rfl) (fun p e s m args below meth c ls C hw hl => ?_)
  replace hl : lv_has ls 1 [(0, .ref (E.2.1 (0)))] := hl
  obtain ⟨hx, hb, hml, hown, hts, hK, hSt, hlk, hr⟩ := id C
  unfold f_X12_every at h
  refine lv_aload_n hx hb dX12_every_0 rfl (lv_at hl 0 rfl) ?_
  obtain ⟨σ_2, h_3, h⟩ := bv_at h
  refine q_afterV hw (q_runV C hw hl.1 (As := []) (rest := []) (hrc  σ σ_2 h_3) yq_X12_factor tM_0 rfl rfl kw_1185 ⟨by dsimp only; omega, by dsimp only; omega⟩ rfl (Nat.le_of_ble_eq_true rfl) ⟨Nat.zero_le _, Nat.zero_le _⟩ dX12_every_1) (fun H locs hw => ?_)
  exact w_X12_every_4 C hF hL hrc _  _ _ _ _ hw (lv_sub hl [0] rfl) h
def f_X12_some_4 (rc : Mem → Option Mem) (k4 : Mem → Option Mem) (σ : Mem) : Option Mem :=
  if (gI σ 0 7) = 0 then
    (bd (f_X12_here σ) fun r_5 σ_6 =>
    if r_5 = (124 : Int32) then
      (lt (sI σ_6 0 5 ((gI σ_6 0 5) + (1 : Int32))) fun σ_9 =>
      bv (f_X12_every rc σ_9) fun σ_11 =>
      bv (f_X12_emits (-3 : Int32) σ_11) fun σ_14 =>
      k4  σ_14)
    else
      some σ_6)
  else
    some σ
def f_X12_some (rc : Mem → Option Mem) (σ : Mem) : Option Mem :=
  bv (f_X12_every rc σ) fun σ_2 =>
  fx1 (f_X12_some_4 rc) FU  σ_2
set_option maxHeartbeats 4000000 in
set_option maxRecDepth 100000 in
theorem w_X12_some_4 {p : Program} {l : Launch} {e : Env} {s : State} {m : MethodId} {args : Array Value} {below : List Frame} {meth : Method} {c : Code} {E : EV} {τ : Mem} (C : Cx E p s m args meth c cX12_some 1 none RX12) {rc : Mem → Option Mem} {fr lo : Nat} (hF : 40 ≤ fr) (hL : 1200 ≤ lo) (hrc : ∀ (σ : Mem) (τ : Mem), rc σ = some τ → MV TM l E yX12_factor cX12_factor 5 none fr lo [.ref (E.2.1 (0))] σ τ) : ∀ (n : Nat) (σ : Mem) (H : Heap) (locs : List Loc) (ls : Array Slot) (hw : Wd TM E σ s H locs) (hl : lv_has ls 1 [(0, .ref (E.2.1 (0)))]) (h : fx1 (f_X12_some_4 rc) n  σ = some τ), W p l e { frames := fr + 2, cells := 0, slots := 0, locals := lo + 44 } s m args below meth c H locs 0 0 (MQ below (QV TM E τ) args s 0 0 E.2.2.1) (F0 m 4 ls []) := by
  obtain ⟨hx, hb, hml, hown, hts, hK, hSt, hlk, hr⟩ := id C
  intro n
  induction n with
  | zero =>
    intro  σ H locs ls hw hl h
    have h : none = some τ := h
    cases h
  | succ n hk4 =>
    intro  σ H locs ls hw hl h
    replace h : f_X12_some_4 rc (fx1 (f_X12_some_4 rc) n)  σ = some τ := h
    unfold f_X12_some_4 at h
    refine lv_aload_n hx hb dX12_some_4 rfl (lv_at hl 0 rfl) ?_
    refine gf_12_7 C hw tM_0 kw_1025 dX12_some_5 ?_
    refine lv_if_ne (tgt := 43) hx hb dX12_some_8 (by decide) (fun c_4 => ?_) (fun c_4 => ?_)
    · replace h := ie_at h c_4
      cases h
      exact q_vret C hw dX12_some_43
    · replace h := it_at h c_4
      refine lv_aload_n hx hb dX12_some_11 rfl (lv_at hl 0 rfl) ?_
      obtain ⟨r_5, σ_6, h_7, h⟩ := bd_at h
      refine q_afterI hw (q_runV C hw hl.1 (As := []) (rest := []) (m_X12_here l E  σ r_5 σ_6 h_7) yq_X12_here tM_0 rfl rfl kw_1154 ⟨by dsimp only; omega, by dsimp only; omega⟩ rfl (Nat.le_of_ble_eq_true rfl) ⟨Nat.zero_le _, Nat.zero_le _⟩ dX12_some_12) (fun H locs hw => ?_)
      refine lv_bipush (v := 124) hx hb dX12_some_15 (by decide) ?_
      refine lv_icmp_ne (tgt := 43) hx hb dX12_some_17 (by decide) (fun c_8 => ?_) (fun c_8 => ?_)
      · replace h := ie_at h c_8
        cases h
        exact q_vret C hw dX12_some_43
      · replace h := it_at h c_8
        refine lv_aload_n hx hb dX12_some_20 rfl (lv_at hl 0 rfl) ?_
        refine lv_dup hx hb dX12_some_21 rfl ?_
        refine gf_12_5 C hw tM_0 kw_1023 dX12_some_22 ?_
        refine lv_iconst (v := 1) hx hb dX12_some_25 (by decide) ?_
        refine lv_iadd hx hb dX12_some_26 ?_
        obtain ⟨σ_9, eσ_9, h⟩ := lt_at h
        refine pf_12_5 C hw tM_0 kw_1023 eσ_9 dX12_some_27 (fun H locs hw => ?_)
        refine lv_aload_n hx hb dX12_some_30 rfl (lv_at hl 0 rfl) ?_
        obtain ⟨σ_11, h_12, h⟩ := bv_at h
        refine q_afterV hw (q_runV C hw hl.1 (As := []) (rest := []) (m_X12_every l E rc hF hL hrc  σ_9 σ_11 h_12) yq_X12_every tM_0 rfl rfl kw_1181 ⟨by dsimp only; omega, by dsimp only; omega⟩ rfl (Nat.le_of_ble_eq_true rfl) ⟨Nat.zero_le _, Nat.zero_le _⟩ dX12_some_31) (fun H locs hw => ?_)
        refine lv_aload_n hx hb dX12_some_34 rfl (lv_at hl 0 rfl) ?_
        refine lv_bipush (v := (-3)) hx hb dX12_some_35 (by decide) ?_
        obtain ⟨σ_14, h_15, h⟩ := bv_at h
        refine q_afterV hw (q_runV C hw hl.1 (As := [.int (-3 : Int32)]) (rest := []) (m_X12_emits l E (-3 : Int32) σ_11 σ_14 h_15) yq_X12_emits tM_0 rfl rfl kw_1189 ⟨by dsimp only; omega, by dsimp only; omega⟩ rfl (Nat.le_of_ble_eq_true rfl) ⟨Nat.zero_le _, Nat.zero_le _⟩ dX12_some_37) (fun H locs hw => ?_)
        refine lv_goto (tgt := 4) hx hb dX12_some_40 (by decide) ?_
        exact hk4  _ _ _ _ hw (lv_sub hl [0] rfl) h
set_option maxHeartbeats 4000000 in
set_option maxRecDepth 100000 in
theorem m_X12_some (l : Launch) (E : EV) (rc : Mem → Option Mem) {fr lo : Nat} (hF : 40 ≤ fr) (hL : 1200 ≤ lo) (hrc : ∀ (σ : Mem) (τ : Mem), rc σ = some τ → MV TM l E yX12_factor cX12_factor 5 none fr lo [.ref (E.2.1 (0))] σ τ) (σ : Mem) (τ : Mem) (h : f_X12_some rc  σ = some τ) : MV TM l E yX12_some cX12_some 1 none (fr + 2) (lo + 44) [.ref (E.2.1 (0))] σ τ := by
  refine mt_start RX12 (by decide +kernel) rfl (Nat.le_of_ble_eq_true rfl) (fun p e s m args below meth c ls C hw hl => ?_)
  replace hl : lv_has ls 1 [(0, .ref (E.2.1 (0)))] := hl
  obtain ⟨hx, hb, hml, hown, hts, hK, hSt, hlk, hr⟩ := id C
  unfold f_X12_some at h
  refine lv_aload_n hx hb dX12_some_0 rfl (lv_at hl 0 rfl) ?_
  obtain ⟨σ_2, h_3, h⟩ := bv_at h
  refine q_afterV hw (q_runV C hw hl.1 (As := []) (rest := []) (m_X12_every l E rc hF hL hrc  σ σ_2 h_3) yq_X12_every tM_0 rfl rfl kw_1181 ⟨by dsimp only; omega, by dsimp only; omega⟩ rfl (Nat.le_of_ble_eq_true rfl) ⟨Nat.zero_le _, Nat.zero_le _⟩ dX12_some_1) (fun H locs hw => ?_)
  exact w_X12_some_4 C hF hL hrc _  _ _ _ _ hw (lv_sub hl [0] rfl) h
def f_X12_factor_101 (rc : Mem → Option Mem) (σ : Mem) : Option Mem :=
  lt (sI σ 0 8 ((gI σ 0 8) - (1 : Int32))) fun σ_46 =>
  some σ_46
def f_X12_factor_69 (rc : Mem → Option Mem) (x1 : Int32) (s1 : Int32) (s2 : Int32) (σ : Mem) : Option Mem :=
  lt (sI σ 0 5 (s1 + s2)) fun σ_24 =>
  if x1 = (33 : Int32) then
    (bv (rc σ_24) fun σ_33 =>
    bv (f_X12_emits (-1 : Int32) σ_33) fun σ_36 =>
    f_X12_factor_101 rc  σ_36)
  else
    bv (f_X12_some rc σ_24) fun σ_27 =>
    bv (f_X12_must (41 : Int32) σ_27) fun σ_30 =>
    f_X12_factor_101 rc  σ_30
def f_X12_factor_39 (rc : Mem → Option Mem) (x1 : Int32) (s1 : Int32) (σ : Mem) : Option Mem :=
  gd (iz s1) <|
  lt (sI σ 0 7 s1) fun σ_18 =>
  lt (sI σ_18 0 8 ((gI σ_18 0 8) + (1 : Int32))) fun σ_20 =>
  if (gI σ_20 0 7) = 0 then
    (f_X12_factor_69 rc x1 (gI σ_20 0 5) (1 : Int32) σ_20)
  else
    f_X12_factor_69 rc x1 (gI σ_20 0 5) (0 : Int32) σ_20
def f_X12_factor_25 (rc : Mem → Option Mem) (x1 : Int32) (σ : Mem) : Option Mem :=
  if (gI σ 0 8) = (5 : Int32) then
    (f_X12_factor_39 rc x1 (1 : Int32) σ)
  else
    f_X12_factor_39 rc x1 (0 : Int32) σ
def f_X12_factor_169 (rc : Mem → Option Mem) (x2 : Int32) (x3 : Int32) (s1 : Int32) (σ : Mem) : Option Mem :=
  gd (iz s1) <|
  lt (sI σ 0 7 s1) fun σ_38 =>
  bd (f_X12_figures σ_38) fun r_40 σ_41 =>
  bv (f_X12_emits ((x2 + ((8 : Int32) * x3)) + ((32 : Int32) * r_40)) σ_41) fun σ_44 =>
  some σ_44
def f_X12_factor_164 (rc : Mem → Option Mem) (x2 : Int32) (x3 : Int32) (σ : Mem) : Option Mem :=
  f_X12_factor_169 rc x2 x3 (1 : Int32) σ
def f_X12_factor_150 (rc : Mem → Option Mem) (x2 : Int32) (s0 : Int32) (σ : Mem) : Option Mem :=
  if (gI σ 0 7) = 0 then
    (if s0 = (-1 : Int32) then
      (f_X12_factor_164 rc x2 s0 σ)
    else
      f_X12_factor_169 rc x2 s0 (0 : Int32) σ)
  else
    f_X12_factor_164 rc x2 s0 σ
def f_X12_factor_130 (rc : Mem → Option Mem) (x2 : Int32) (s1 : Int32) (σ : Mem) : Option Mem :=
  gd (iz s1) <|
  lt (sI σ 0 7 s1) fun σ_12 =>
  if (gI σ_12 0 7) = 0 then
    (bd (f_X12_among 3 σ_12) fun r_15 σ_16 =>
    f_X12_factor_150 rc x2 r_15 σ_16)
  else
    f_X12_factor_150 rc x2 (0 : Int32) σ_12
def f_X12_factor_F (rc : Mem → Option Mem) (σ : Mem) : Option Mem :=
  if (gI σ 0 7) = 0 then
    (bd (f_X12_here σ) fun r_2 σ_3 =>
    if r_2 = (33 : Int32) then
      (f_X12_factor_25 rc r_2 σ_3)
    else
      if r_2 = (40 : Int32) then
        (f_X12_factor_25 rc r_2 σ_3)
      else
        bd (f_X12_among 2 σ_3) fun r_7 σ_8 =>
        if r_7 = (-1 : Int32) then
          (f_X12_factor_130 rc r_7 (1 : Int32) σ_8)
        else
          f_X12_factor_130 rc r_7 (0 : Int32) σ_8)
  else
    some σ
def f_X12_factor (σ : Mem) : Option Mem := fx1 f_X12_factor_F 16  σ
set_option maxHeartbeats 4000000 in
set_option maxRecDepth 100000 in
theorem w_X12_factor_101 {p : Program} {l : Launch} {e : Env} {s : State} {m : MethodId} {args : Array Value} {below : List Frame} {meth : Method} {c : Code} {E : EV} {τ : Mem} (C : Cx E p s m args meth c cX12_factor 5 none RX12) {rc : Mem → Option Mem} {fr lo : Nat} (hF : 40 ≤ fr) (hL : 1200 ≤ lo) (hrc : ∀ (σ : Mem) (τ : Mem), rc σ = some τ → MV TM l E yX12_factor cX12_factor 5 none fr lo [.ref (E.2.1 (0))] σ τ) : ∀ (σ : Mem) (H : Heap) (locs : List Loc) (ls : Array Slot) (hw : Wd TM E σ s H locs) (hl : lv_has ls 5 [(0, .ref (E.2.1 (0)))]) (h : f_X12_factor_101 rc  σ = some τ), W p l e { frames := fr + 3, cells := 0, slots := 0, locals := lo + 64 } s m args below meth c H locs 0 0 (MQ below (QV TM E τ) args s 0 0 E.2.2.1) (F0 m 101 ls []) := by
  obtain ⟨hx, hb, hml, hown, hts, hK, hSt, hlk, hr⟩ := id C
  intro  σ H locs ls hw hl h
  unfold f_X12_factor_101 at h
  refine lv_aload_n hx hb dX12_factor_101 rfl (lv_at hl 0 rfl) ?_
  refine lv_dup hx hb dX12_factor_102 rfl ?_
  refine gf_12_8 C hw tM_0 kw_1026 dX12_factor_103 ?_
  refine lv_iconst (v := 1) hx hb dX12_factor_106 (by decide) ?_
  refine lv_isub hx hb dX12_factor_107 ?_
  obtain ⟨σ_46, eσ_46, h⟩ := lt_at h
  refine pf_12_8 C hw tM_0 kw_1026 eσ_46 dX12_factor_108 (fun H locs hw => ?_)
  cases h
  exact q_vret C hw dX12_factor_111
set_option maxHeartbeats 4000000 in
set_option maxRecDepth 100000 in
theorem w_X12_factor_69 {p : Program} {l : Launch} {e : Env} {s : State} {m : MethodId} {args : Array Value} {below : List Frame} {meth : Method} {c : Code} {E : EV} {τ : Mem} (C : Cx E p s m args meth c cX12_factor 5 none RX12) {rc : Mem → Option Mem} {fr lo : Nat} (hF : 40 ≤ fr) (hL : 1200 ≤ lo) (hrc : ∀ (σ : Mem) (τ : Mem), rc σ = some τ → MV TM l E yX12_factor cX12_factor 5 none fr lo [.ref (E.2.1 (0))] σ τ) : ∀ (x1 : Int32) (s1 : Int32) (s2 : Int32) (σ : Mem) (H : Heap) (locs : List Loc) (ls : Array Slot) (hw : Wd TM E σ s H locs) (hl : lv_has ls 5 [(0, .ref (E.2.1 (0))), (1, .int x1)]) (h : f_X12_factor_69 rc x1 s1 s2 σ = some τ), W p l e { frames := fr + 3, cells := 0, slots := 0, locals := lo + 64 } s m args below meth c H locs 0 0 (MQ below (QV TM E τ) args s 0 0 E.2.2.1) (F0 m 69 ls [.int s2, .int s1, .ref (E.2.1 (0))]) := by
  obtain ⟨hx, hb, hml, hown, hts, hK, hSt, hlk, hr⟩ := id C
  intro x1 s1 s2 σ H locs ls hw hl h
  unfold f_X12_factor_69 at h
  refine lv_iadd hx hb dX12_factor_69 ?_
  obtain ⟨σ_24, eσ_24, h⟩ := lt_at h
  refine pf_12_5 C hw tM_0 kw_1023 eσ_24 dX12_factor_70 (fun H locs hw => ?_)
  refine lv_iload_n hx hb dX12_factor_73 rfl (lv_at hl 1 rfl) ?_
  refine lv_bipush (v := 33) hx hb dX12_factor_74 (by decide) ?_
  refine lv_icmp_ne (tgt := 91) hx hb dX12_factor_76 (by decide) (fun c_25 => ?_) (fun c_25 => ?_)
  · replace h := ie_at h c_25
    refine lv_aload_n hx hb dX12_factor_91 rfl (lv_at hl 0 rfl) ?_
    obtain ⟨σ_27, h_28, h⟩ := bv_at h
    refine q_afterV hw (q_runV C hw hl.1 (As := []) (rest := []) (m_X12_some l E rc hF hL hrc  σ_24 σ_27 h_28) yq_X12_some tM_0 rfl rfl kw_1177 ⟨by dsimp only; omega, by dsimp only; omega⟩ rfl (Nat.le_of_ble_eq_true rfl) ⟨Nat.zero_le _, Nat.zero_le _⟩ dX12_factor_92) (fun H locs hw => ?_)
    refine lv_aload_n hx hb dX12_factor_95 rfl (lv_at hl 0 rfl) ?_
    refine lv_bipush (v := 41) hx hb dX12_factor_96 (by decide) ?_
    obtain ⟨σ_30, h_31, h⟩ := bv_at h
    refine q_afterV hw (q_runV C hw hl.1 (As := [.int (41 : Int32)]) (rest := []) (m_X12_must l E (41 : Int32) σ_27 σ_30 h_31) yq_X12_must tM_0 rfl rfl kw_1169 ⟨by dsimp only; omega, by dsimp only; omega⟩ rfl (Nat.le_of_ble_eq_true rfl) ⟨Nat.zero_le _, Nat.zero_le _⟩ dX12_factor_98) (fun H locs hw => ?_)
    exact w_X12_factor_101 C hF hL hrc  _ _ _ _ hw (lv_sub hl [0] rfl) h
  · replace h := it_at h c_25
    refine lv_aload_n hx hb dX12_factor_79 rfl (lv_at hl 0 rfl) ?_
    obtain ⟨σ_33, h_34, h⟩ := bv_at h
    refine q_afterV hw (q_runV C hw hl.1 (As := []) (rest := []) (hrc  σ_24 σ_33 h_34) yq_X12_factor tM_0 rfl rfl kw_1185 ⟨by dsimp only; omega, by dsimp only; omega⟩ rfl (Nat.le_of_ble_eq_true rfl) ⟨Nat.zero_le _, Nat.zero_le _⟩ dX12_factor_80) (fun H locs hw => ?_)
    refine lv_aload_n hx hb dX12_factor_83 rfl (lv_at hl 0 rfl) ?_
    refine lv_iconst (v := (-1)) hx hb dX12_factor_84 (by decide) ?_
    obtain ⟨σ_36, h_37, h⟩ := bv_at h
    refine q_afterV hw (q_runV C hw hl.1 (As := [.int (-1 : Int32)]) (rest := []) (m_X12_emits l E (-1 : Int32) σ_33 σ_36 h_37) yq_X12_emits tM_0 rfl rfl kw_1189 ⟨by dsimp only; omega, by dsimp only; omega⟩ rfl (Nat.le_of_ble_eq_true rfl) ⟨Nat.zero_le _, Nat.zero_le _⟩ dX12_factor_85) (fun H locs hw => ?_)
    refine lv_goto (tgt := 101) hx hb dX12_factor_88 (by decide) ?_
    exact w_X12_factor_101 C hF hL hrc  _ _ _ _ hw (lv_sub hl [0] rfl) h
set_option maxHeartbeats 4000000 in
set_option maxRecDepth 100000 in
theorem w_X12_factor_39 {p : Program} {l : Launch} {e : Env} {s : State} {m : MethodId} {args : Array Value} {below : List Frame} {meth : Method} {c : Code} {E : EV} {τ : Mem} (C : Cx E p s m args meth c cX12_factor 5 none RX12) {rc : Mem → Option Mem} {fr lo : Nat} (hF : 40 ≤ fr) (hL : 1200 ≤ lo) (hrc : ∀ (σ : Mem) (τ : Mem), rc σ = some τ → MV TM l E yX12_factor cX12_factor 5 none fr lo [.ref (E.2.1 (0))] σ τ) : ∀ (x1 : Int32) (s1 : Int32) (σ : Mem) (H : Heap) (locs : List Loc) (ls : Array Slot) (hw : Wd TM E σ s H locs) (hl : lv_has ls 5 [(0, .ref (E.2.1 (0))), (1, .int x1)]) (h : f_X12_factor_39 rc x1 s1 σ = some τ), W p l e { frames := fr + 3, cells := 0, slots := 0, locals := lo + 64 } s m args below meth c H locs 0 0 (MQ below (QV TM E τ) args s 0 0 E.2.2.1) (F0 m 39 ls [.int s1, .ref (E.2.1 (0))]) := by
  obtain ⟨hx, hb, hml, hown, hts, hK, hSt, hlk, hr⟩ := id C
  intro x1 s1 σ H locs ls hw hl h
  unfold f_X12_factor_39 at h
  obtain ⟨g_19, h⟩ := gd_at h
  obtain ⟨σ_18, eσ_18, h⟩ := lt_at h
  refine pf_12_7 C hw tM_0 kw_1025 g_19 eσ_18 dX12_factor_39 (fun H locs hw => ?_)
  refine lv_aload_n hx hb dX12_factor_42 rfl (lv_at hl 0 rfl) ?_
  refine lv_dup hx hb dX12_factor_43 rfl ?_
  refine gf_12_8 C hw tM_0 kw_1026 dX12_factor_44 ?_
  refine lv_iconst (v := 1) hx hb dX12_factor_47 (by decide) ?_
  refine lv_iadd hx hb dX12_factor_48 ?_
  obtain ⟨σ_20, eσ_20, h⟩ := lt_at h
  refine pf_12_8 C hw tM_0 kw_1026 eσ_20 dX12_factor_49 (fun H locs hw => ?_)
  refine lv_aload_n hx hb dX12_factor_52 rfl (lv_at hl 0 rfl) ?_
  refine lv_dup hx hb dX12_factor_53 rfl ?_
  refine gf_12_5 C hw tM_0 kw_1023 dX12_factor_54 ?_
  refine lv_aload_n hx hb dX12_factor_57 rfl (lv_at hl 0 rfl) ?_
  refine gf_12_7 C hw tM_0 kw_1025 dX12_factor_58 ?_
  refine lv_if_eq (tgt := 68) hx hb dX12_factor_61 (by decide) (fun c_21 => ?_) (fun c_21 => ?_)
  · replace h := it_at h c_21
    refine lv_iconst (v := 1) hx hb dX12_factor_68 (by decide) ?_
    exact w_X12_factor_69 C hF hL hrc _ _ _ _ _ _ _ hw (lv_sub hl [0, 1] rfl) h
  · replace h := ie_at h c_21
    refine lv_iconst (v := 0) hx hb dX12_factor_64 (by decide) ?_
    refine lv_goto (tgt := 69) hx hb dX12_factor_65 (by decide) ?_
    exact w_X12_factor_69 C hF hL hrc _ _ _ _ _ _ _ hw (lv_sub hl [0, 1] rfl) h
set_option maxHeartbeats 4000000 in
set_option maxRecDepth 100000 in
theorem w_X12_factor_25 {p : Program} {l : Launch} {e : Env} {s : State} {m : MethodId} {args : Array Value} {below : List Frame} {meth : Method} {c : Code} {E : EV} {τ : Mem} (C : Cx E p s m args meth c cX12_factor 5 none RX12) {rc : Mem → Option Mem} {fr lo : Nat} (hF : 40 ≤ fr) (hL : 1200 ≤ lo) (hrc : ∀ (σ : Mem) (τ : Mem), rc σ = some τ → MV TM l E yX12_factor cX12_factor 5 none fr lo [.ref (E.2.1 (0))] σ τ) : ∀ (x1 : Int32) (σ : Mem) (H : Heap) (locs : List Loc) (ls : Array Slot) (hw : Wd TM E σ s H locs) (hl : lv_has ls 5 [(0, .ref (E.2.1 (0))), (1, .int x1)]) (h : f_X12_factor_25 rc x1 σ = some τ), W p l e { frames := fr + 3, cells := 0, slots := 0, locals := lo + 64 } s m args below meth c H locs 0 0 (MQ below (QV TM E τ) args s 0 0 E.2.2.1) (F0 m 25 ls []) := by
  obtain ⟨hx, hb, hml, hown, hts, hK, hSt, hlk, hr⟩ := id C
  intro x1 σ H locs ls hw hl h
  unfold f_X12_factor_25 at h
  refine lv_aload_n hx hb dX12_factor_25 rfl (lv_at hl 0 rfl) ?_
  refine lv_aload_n hx hb dX12_factor_26 rfl (lv_at hl 0 rfl) ?_
  refine gf_12_8 C hw tM_0 kw_1026 dX12_factor_27 ?_
  refine lv_iconst (v := 5) hx hb dX12_factor_30 (by decide) ?_
  refine lv_icmp_ne (tgt := 38) hx hb dX12_factor_31 (by decide) (fun c_11 => ?_) (fun c_11 => ?_)
  · replace h := ie_at h c_11
    refine lv_iconst (v := 0) hx hb dX12_factor_38 (by decide) ?_
    exact w_X12_factor_39 C hF hL hrc _ _ _ _ _ _ hw (lv_sub hl [0, 1] rfl) h
  · replace h := it_at h c_11
    refine lv_iconst (v := 1) hx hb dX12_factor_34 (by decide) ?_
    refine lv_goto (tgt := 39) hx hb dX12_factor_35 (by decide) ?_
    exact w_X12_factor_39 C hF hL hrc _ _ _ _ _ _ hw (lv_sub hl [0, 1] rfl) h
set_option maxHeartbeats 4000000 in
set_option maxRecDepth 100000 in
theorem w_X12_factor_169 {p : Program} {l : Launch} {e : Env} {s : State} {m : MethodId} {args : Array Value} {below : List Frame} {meth : Method} {c : Code} {E : EV} {τ : Mem} (C : Cx E p s m args meth c cX12_factor 5 none RX12) {rc : Mem → Option Mem} {fr lo : Nat} (hF : 40 ≤ fr) (hL : 1200 ≤ lo) (hrc : ∀ (σ : Mem) (τ : Mem), rc σ = some τ → MV TM l E yX12_factor cX12_factor 5 none fr lo [.ref (E.2.1 (0))] σ τ) : ∀ (x2 : Int32) (x3 : Int32) (s1 : Int32) (σ : Mem) (H : Heap) (locs : List Loc) (ls : Array Slot) (hw : Wd TM E σ s H locs) (hl : lv_has ls 5 [(0, .ref (E.2.1 (0))), (2, .int x2), (3, .int x3)]) (h : f_X12_factor_169 rc x2 x3 s1 σ = some τ), W p l e { frames := fr + 3, cells := 0, slots := 0, locals := lo + 64 } s m args below meth c H locs 0 0 (MQ below (QV TM E τ) args s 0 0 E.2.2.1) (F0 m 169 ls [.int s1, .ref (E.2.1 (0))]) := by
  obtain ⟨hx, hb, hml, hown, hts, hK, hSt, hlk, hr⟩ := id C
  intro x2 x3 s1 σ H locs ls hw hl h
  unfold f_X12_factor_169 at h
  obtain ⟨g_39, h⟩ := gd_at h
  obtain ⟨σ_38, eσ_38, h⟩ := lt_at h
  refine pf_12_7 C hw tM_0 kw_1025 g_39 eσ_38 dX12_factor_169 (fun H locs hw => ?_)
  refine lv_aload_n hx hb dX12_factor_172 rfl (lv_at hl 0 rfl) ?_
  obtain ⟨r_40, σ_41, h_42, h⟩ := bd_at h
  refine q_afterI hw (q_runV C hw hl.1 (As := []) (rest := []) (m_X12_figures l E  σ_38 r_40 σ_41 h_42) yq_X12_figures tM_0 rfl rfl kw_1173 ⟨by dsimp only; omega, by dsimp only; omega⟩ rfl (Nat.le_of_ble_eq_true rfl) ⟨Nat.zero_le _, Nat.zero_le _⟩ dX12_factor_173) (fun H locs hw => ?_)
  refine lv_istore (lv' := [(4, .int r_40), (0, .ref (E.2.1 (0))), (2, .int x2), (3, .int x3)]) hx hb dX12_factor_176 hl (by decide) rfl (fun ls hl => ?_)
  refine lv_aload_n hx hb dX12_factor_178 rfl (lv_at hl 1 rfl) ?_
  refine lv_iload_n hx hb dX12_factor_179 rfl (lv_at hl 2 rfl) ?_
  refine lv_bipush (v := 8) hx hb dX12_factor_180 (by decide) ?_
  refine lv_iload_n hx hb dX12_factor_182 rfl (lv_at hl 3 rfl) ?_
  refine lv_imul hx hb dX12_factor_183 ?_
  refine lv_iadd hx hb dX12_factor_184 ?_
  refine lv_bipush (v := 32) hx hb dX12_factor_185 (by decide) ?_
  refine lv_iload hx hb dX12_factor_187 (lv_at hl 0 rfl) ?_
  refine lv_imul hx hb dX12_factor_189 ?_
  refine lv_iadd hx hb dX12_factor_190 ?_
  obtain ⟨σ_44, h_45, h⟩ := bv_at h
  refine q_afterV hw (q_runV C hw hl.1 (As := [.int ((x2 + ((8 : Int32) * x3)) + ((32 : Int32) * r_40))]) (rest := []) (m_X12_emits l E ((x2 + ((8 : Int32) * x3)) + ((32 : Int32) * r_40)) σ_41 σ_44 h_45) yq_X12_emits tM_0 rfl rfl kw_1189 ⟨by dsimp only; omega, by dsimp only; omega⟩ rfl (Nat.le_of_ble_eq_true rfl) ⟨Nat.zero_le _, Nat.zero_le _⟩ dX12_factor_191) (fun H locs hw => ?_)
  cases h
  exact q_vret C hw dX12_factor_194
set_option maxHeartbeats 4000000 in
set_option maxRecDepth 100000 in
theorem w_X12_factor_164 {p : Program} {l : Launch} {e : Env} {s : State} {m : MethodId} {args : Array Value} {below : List Frame} {meth : Method} {c : Code} {E : EV} {τ : Mem} (C : Cx E p s m args meth c cX12_factor 5 none RX12) {rc : Mem → Option Mem} {fr lo : Nat} (hF : 40 ≤ fr) (hL : 1200 ≤ lo) (hrc : ∀ (σ : Mem) (τ : Mem), rc σ = some τ → MV TM l E yX12_factor cX12_factor 5 none fr lo [.ref (E.2.1 (0))] σ τ) : ∀ (x2 : Int32) (x3 : Int32) (σ : Mem) (H : Heap) (locs : List Loc) (ls : Array Slot) (hw : Wd TM E σ s H locs) (hl : lv_has ls 5 [(0, .ref (E.2.1 (0))), (2, .int x2), (3, .int x3)]) (h : f_X12_factor_164 rc x2 x3 σ = some τ), W p l e { frames := fr + 3, cells := 0, slots := 0, locals := lo + 64 } s m args below meth c H locs 0 0 (MQ below (QV TM E τ) args s 0 0 E.2.2.1) (F0 m 164 ls [.ref (E.2.1 (0))]) := by
  obtain ⟨hx, hb, hml, hown, hts, hK, hSt, hlk, hr⟩ := id C
  intro x2 x3 σ H locs ls hw hl h
  unfold f_X12_factor_164 at h
  refine lv_iconst (v := 1) hx hb dX12_factor_164 (by decide) ?_
  refine lv_goto (tgt := 169) hx hb dX12_factor_165 (by decide) ?_
  exact w_X12_factor_169 C hF hL hrc _ _ _ _ _ _ _ hw (lv_sub hl [0, 1, 2] rfl) h
set_option maxHeartbeats 4000000 in
set_option maxRecDepth 100000 in
theorem w_X12_factor_150 {p : Program} {l : Launch} {e : Env} {s : State} {m : MethodId} {args : Array Value} {below : List Frame} {meth : Method} {c : Code} {E : EV} {τ : Mem} (C : Cx E p s m args meth c cX12_factor 5 none RX12) {rc : Mem → Option Mem} {fr lo : Nat} (hF : 40 ≤ fr) (hL : 1200 ≤ lo) (hrc : ∀ (σ : Mem) (τ : Mem), rc σ = some τ → MV TM l E yX12_factor cX12_factor 5 none fr lo [.ref (E.2.1 (0))] σ τ) : ∀ (x2 : Int32) (s0 : Int32) (σ : Mem) (H : Heap) (locs : List Loc) (ls : Array Slot) (hw : Wd TM E σ s H locs) (hl : lv_has ls 5 [(0, .ref (E.2.1 (0))), (2, .int x2)]) (h : f_X12_factor_150 rc x2 s0 σ = some τ), W p l e { frames := fr + 3, cells := 0, slots := 0, locals := lo + 64 } s m args below meth c H locs 0 0 (MQ below (QV TM E τ) args s 0 0 E.2.2.1) (F0 m 150 ls [.int s0]) := by
  obtain ⟨hx, hb, hml, hown, hts, hK, hSt, hlk, hr⟩ := id C
  intro x2 s0 σ H locs ls hw hl h
  unfold f_X12_factor_150 at h
  refine lv_istore_n (lv' := [(3, .int s0), (0, .ref (E.2.1 (0))), (2, .int x2)]) hx hb dX12_factor_150 rfl hl (by decide) rfl (fun ls hl => ?_)
  refine lv_aload_n hx hb dX12_factor_151 rfl (lv_at hl 1 rfl) ?_
  refine lv_aload_n hx hb dX12_factor_152 rfl (lv_at hl 1 rfl) ?_
  refine gf_12_7 C hw tM_0 kw_1025 dX12_factor_153 ?_
  refine lv_if_ne (tgt := 164) hx hb dX12_factor_156 (by decide) (fun c_22 => ?_) (fun c_22 => ?_)
  · replace h := ie_at h c_22
    exact w_X12_factor_164 C hF hL hrc _ _ _ _ _ _ hw (lv_sub hl [1, 2, 0] rfl) h
  · replace h := it_at h c_22
    refine lv_iload_n hx hb dX12_factor_159 rfl (lv_at hl 0 rfl) ?_
    refine lv_iconst (v := (-1)) hx hb dX12_factor_160 (by decide) ?_
    refine lv_icmp_ne (tgt := 168) hx hb dX12_factor_161 (by decide) (fun c_23 => ?_) (fun c_23 => ?_)
    · replace h := ie_at h c_23
      refine lv_iconst (v := 0) hx hb dX12_factor_168 (by decide) ?_
      exact w_X12_factor_169 C hF hL hrc _ _ _ _ _ _ _ hw (lv_sub hl [1, 2, 0] rfl) h
    · replace h := it_at h c_23
      exact w_X12_factor_164 C hF hL hrc _ _ _ _ _ _ hw (lv_sub hl [1, 2, 0] rfl) h
set_option maxHeartbeats 4000000 in
set_option maxRecDepth 100000 in
theorem w_X12_factor_130 {p : Program} {l : Launch} {e : Env} {s : State} {m : MethodId} {args : Array Value} {below : List Frame} {meth : Method} {c : Code} {E : EV} {τ : Mem} (C : Cx E p s m args meth c cX12_factor 5 none RX12) {rc : Mem → Option Mem} {fr lo : Nat} (hF : 40 ≤ fr) (hL : 1200 ≤ lo) (hrc : ∀ (σ : Mem) (τ : Mem), rc σ = some τ → MV TM l E yX12_factor cX12_factor 5 none fr lo [.ref (E.2.1 (0))] σ τ) : ∀ (x2 : Int32) (s1 : Int32) (σ : Mem) (H : Heap) (locs : List Loc) (ls : Array Slot) (hw : Wd TM E σ s H locs) (hl : lv_has ls 5 [(0, .ref (E.2.1 (0))), (2, .int x2)]) (h : f_X12_factor_130 rc x2 s1 σ = some τ), W p l e { frames := fr + 3, cells := 0, slots := 0, locals := lo + 64 } s m args below meth c H locs 0 0 (MQ below (QV TM E τ) args s 0 0 E.2.2.1) (F0 m 130 ls [.int s1, .ref (E.2.1 (0))]) := by
  obtain ⟨hx, hb, hml, hown, hts, hK, hSt, hlk, hr⟩ := id C
  intro x2 s1 σ H locs ls hw hl h
  unfold f_X12_factor_130 at h
  obtain ⟨g_13, h⟩ := gd_at h
  obtain ⟨σ_12, eσ_12, h⟩ := lt_at h
  refine pf_12_7 C hw tM_0 kw_1025 g_13 eσ_12 dX12_factor_130 (fun H locs hw => ?_)
  refine lv_aload_n hx hb dX12_factor_133 rfl (lv_at hl 0 rfl) ?_
  refine gf_12_7 C hw tM_0 kw_1025 dX12_factor_134 ?_
  refine lv_if_eq (tgt := 144) hx hb dX12_factor_137 (by decide) (fun c_14 => ?_) (fun c_14 => ?_)
  · replace h := it_at h c_14
    refine lv_aload_n hx hb dX12_factor_144 rfl (lv_at hl 0 rfl) ?_
    refine q_ldcS C (tx := "<=>") (w := 3) (List.mem_of_getElem? (i := 5) rfl) dX12_factor_145 ?_
    obtain ⟨r_15, σ_16, h_17, h⟩ := bd_at h
    refine q_afterI hw (q_runV C hw hl.1 (As := [.ref (E.2.2.2.2 (2 + 3))]) (rest := []) (m_X12_among l E 3 (by decide) σ_12 r_15 σ_16 h_17) yq_X12_among tM_0 rfl rfl kw_1194 ⟨by dsimp only; omega, by dsimp only; omega⟩ rfl (Nat.le_of_ble_eq_true rfl) ⟨Nat.zero_le _, Nat.zero_le _⟩ dX12_factor_147) (fun H locs hw => ?_)
    exact w_X12_factor_150 C hF hL hrc _ _ _ _ _ _ hw (lv_sub hl [0, 1] rfl) h
  · replace h := ie_at h c_14
    refine lv_iconst (v := 0) hx hb dX12_factor_140 (by decide) ?_
    refine lv_goto (tgt := 150) hx hb dX12_factor_141 (by decide) ?_
    exact w_X12_factor_150 C hF hL hrc _ _ _ _ _ _ hw (lv_sub hl [0, 1] rfl) h
set_option maxHeartbeats 4000000 in
set_option maxRecDepth 100000 in
theorem m_X12_factor_F (l : Launch) (E : EV) (rc : Mem → Option Mem) {fr lo : Nat} (hF : 40 ≤ fr) (hL : 1200 ≤ lo) (hrc : ∀ (σ : Mem) (τ : Mem), rc σ = some τ → MV TM l E yX12_factor cX12_factor 5 none fr lo [.ref (E.2.1 (0))] σ τ) (σ : Mem) (τ : Mem) (h : f_X12_factor_F rc  σ = some τ) : MV TM l E yX12_factor cX12_factor 5 none (fr + 3) (lo + 64) [.ref (E.2.1 (0))] σ τ := by
  refine mt_start RX12 (by decide +kernel) rfl (Nat.le_of_ble_eq_true rfl) (fun p e s m args below meth c ls C hw hl => ?_)
  replace hl : lv_has ls 5 [(0, .ref (E.2.1 (0)))] := hl
  obtain ⟨hx, hb, hml, hown, hts, hK, hSt, hlk, hr⟩ := id C
  unfold f_X12_factor_F at h
  refine lv_aload_n hx hb dX12_factor_0 rfl (lv_at hl 0 rfl) ?_
  refine gf_12_7 C hw tM_0 kw_1025 dX12_factor_1 ?_
  refine lv_if_eq (tgt := 8) hx hb dX12_factor_4 (by decide) (fun c_1 => ?_) (fun c_1 => ?_)
  · replace h := it_at h c_1
    refine lv_aload_n hx hb dX12_factor_8 rfl (lv_at hl 0 rfl) ?_
    obtain ⟨r_2, σ_3, h_4, h⟩ := bd_at h
    refine q_afterI hw (q_runV C hw hl.1 (As := []) (rest := []) (m_X12_here l E  σ r_2 σ_3 h_4) yq_X12_here tM_0 rfl rfl kw_1154 ⟨by dsimp only; omega, by dsimp only; omega⟩ rfl (Nat.le_of_ble_eq_true rfl) ⟨Nat.zero_le _, Nat.zero_le _⟩ dX12_factor_9) (fun H locs hw => ?_)
    refine lv_istore_n (lv' := [(1, .int r_2), (0, .ref (E.2.1 (0)))]) hx hb dX12_factor_12 rfl hl (by decide) rfl (fun ls hl => ?_)
    refine lv_iload_n hx hb dX12_factor_13 rfl (lv_at hl 0 rfl) ?_
    refine lv_bipush (v := 33) hx hb dX12_factor_14 (by decide) ?_
    refine lv_icmp_eq (tgt := 25) hx hb dX12_factor_16 (by decide) (fun c_5 => ?_) (fun c_5 => ?_)
    · replace h := it_at h c_5
      exact w_X12_factor_25 C hF hL hrc _ _ _ _ _ hw (lv_sub hl [1, 0] rfl) h
    · replace h := ie_at h c_5
      refine lv_iload_n hx hb dX12_factor_19 rfl (lv_at hl 0 rfl) ?_
      refine lv_bipush (v := 40) hx hb dX12_factor_20 (by decide) ?_
      refine lv_icmp_ne (tgt := 112) hx hb dX12_factor_22 (by decide) (fun c_6 => ?_) (fun c_6 => ?_)
      · replace h := ie_at h c_6
        refine lv_aload_n hx hb dX12_factor_112 rfl (lv_at hl 1 rfl) ?_
        refine q_ldcS C (tx := "wcshdf") (w := 2) (List.mem_of_getElem? (i := 4) rfl) dX12_factor_113 ?_
        obtain ⟨r_7, σ_8, h_9, h⟩ := bd_at h
        refine q_afterI hw (q_runV C hw hl.1 (As := [.ref (E.2.2.2.2 (2 + 2))]) (rest := []) (m_X12_among l E 2 (by decide) σ_3 r_7 σ_8 h_9) yq_X12_among tM_0 rfl rfl kw_1194 ⟨by dsimp only; omega, by dsimp only; omega⟩ rfl (Nat.le_of_ble_eq_true rfl) ⟨Nat.zero_le _, Nat.zero_le _⟩ dX12_factor_115) (fun H locs hw => ?_)
        refine lv_istore_n (lv' := [(2, .int r_7), (1, .int r_2), (0, .ref (E.2.1 (0)))]) hx hb dX12_factor_118 rfl hl (by decide) rfl (fun ls hl => ?_)
        refine lv_aload_n hx hb dX12_factor_119 rfl (lv_at hl 2 rfl) ?_
        refine lv_iload_n hx hb dX12_factor_120 rfl (lv_at hl 0 rfl) ?_
        refine lv_iconst (v := (-1)) hx hb dX12_factor_121 (by decide) ?_
        refine lv_icmp_ne (tgt := 129) hx hb dX12_factor_122 (by decide) (fun c_10 => ?_) (fun c_10 => ?_)
        · replace h := ie_at h c_10
          refine lv_iconst (v := 0) hx hb dX12_factor_129 (by decide) ?_
          exact w_X12_factor_130 C hF hL hrc _ _ _ _ _ _ hw (lv_sub hl [2, 0] rfl) h
        · replace h := it_at h c_10
          refine lv_iconst (v := 1) hx hb dX12_factor_125 (by decide) ?_
          refine lv_goto (tgt := 130) hx hb dX12_factor_126 (by decide) ?_
          exact w_X12_factor_130 C hF hL hrc _ _ _ _ _ _ hw (lv_sub hl [2, 0] rfl) h
      · replace h := it_at h c_6
        exact w_X12_factor_25 C hF hL hrc _ _ _ _ _ hw (lv_sub hl [1, 0] rfl) h
  · replace h := ie_at h c_1
    cases h
    exact q_vret C hw dX12_factor_7
theorem md_X12_factor (l : Launch) (E : EV) : ∀ (d : Nat) (σ : Mem) (τ : Mem), fx1 f_X12_factor_F d  σ = some τ → MV TM l E yX12_factor cX12_factor 5 none (40 + 3 * d) (1200 + 64 * d) [.ref (E.2.1 (0))] σ τ := by
  intro d
  induction d with
  | zero =>
    intro  σ τ h
    have h : none = some τ := h
    cases h
  | succ n ih =>
    intro  σ τ h
    have e1 : 40 + 3 * (n + 1) = (40 + 3 * n) + 3 := by omega
    have e2 : 1200 + 64 * (n + 1) = (1200 + 64 * n) + 64 := by omega
    rw [e1, e2]
    exact m_X12_factor_F l E (rc := fx1 f_X12_factor_F n) (fr := 40 + 3 * n) (lo := 1200 + 64 * n) (by omega) (by omega) ih  σ τ h
theorem m_X12_factor (l : Launch) (E : EV) (σ : Mem) (τ : Mem) (h : f_X12_factor  σ = some τ) : MV TM l E yX12_factor cX12_factor 5 none 88 2224 [.ref (E.2.1 (0))] σ τ := md_X12_factor l E 16  σ τ h
def f_X12_everyx (σ : Mem) : Option Mem := f_X12_every f_X12_factor  σ
theorem m_X12_everyx (l : Launch) (E : EV) (σ : Mem) (τ : Mem) (h : f_X12_everyx  σ = some τ) : MV TM l E yX12_every cX12_every 1 none 89 2248 [.ref (E.2.1 (0))] σ τ := m_X12_every l E (rc := f_X12_factor) (fr := 88) (lo := 2224) (by decide) (by decide) (m_X12_factor l E)  σ τ h
def f_X12_somex (σ : Mem) : Option Mem := f_X12_some f_X12_factor  σ
theorem m_X12_somex (l : Launch) (E : EV) (σ : Mem) (τ : Mem) (h : f_X12_somex  σ = some τ) : MV TM l E yX12_some cX12_some 1 none 90 2268 [.ref (E.2.1 (0))] σ τ := m_X12_some l E (rc := f_X12_factor) (fr := 88) (lo := 2224) (by decide) (by decide) (m_X12_factor l E)  σ τ h
def f_X12_much (w : Nat) (p1 : Int32) (σ : Mem) : Option Mem :=
  bv (f_X12_spells w σ) fun σ_2 =>
  bd (f_X12_figures σ_2) fun r_4 σ_5 =>
  bv (f_X12_must (32 : Int32) σ_5) fun σ_8 =>
  bv (f_X12_somex σ_8) fun σ_11 =>
  bv (f_X12_emits (((-10 : Int32) - ((100 : Int32) * p1)) - r_4) σ_11) fun σ_14 =>
  some σ_14
set_option maxHeartbeats 4000000 in
set_option maxRecDepth 100000 in
theorem m_X12_much (l : Launch) (E : EV) (w : Nat) (hs : w < 11) (p1 : Int32) (σ : Mem) (τ : Mem) (h : f_X12_much w p1 σ = some τ) : MV TM l E yX12_much cX12_much 4 none 91 2288 [.ref (E.2.1 (0)), .int p1, .ref (E.2.2.2.2 (2 + w))] σ τ := by
  refine mt_start RX12 (by decide +kernel) rfl (Nat.le_of_ble_eq_true rfl) (fun p e s m args below meth c ls C hw hl => ?_)
  replace hl : lv_has ls 4 [(0, .ref (E.2.1 (0))), (1, .int p1), (2, .ref (E.2.2.2.2 (2 + w)))] := hl
  obtain ⟨hx, hb, hml, hown, hts, hK, hSt, hlk, hr⟩ := id C
  unfold f_X12_much at h
  refine lv_aload_n hx hb dX12_much_0 rfl (lv_at hl 0 rfl) ?_
  refine lv_aload_n hx hb dX12_much_1 rfl (lv_at hl 2 rfl) ?_
  obtain ⟨σ_2, h_3, h⟩ := bv_at h
  refine q_afterV hw (q_runV C hw hl.1 (As := [.ref (E.2.2.2.2 (2 + w))]) (rest := []) (m_X12_spells l E w hs σ σ_2 h_3) yq_X12_spells tM_0 rfl rfl kw_1163 ⟨Nat.le_of_ble_eq_true rfl, Nat.le_of_ble_eq_true rfl⟩ rfl (Nat.le_of_ble_eq_true rfl) ⟨Nat.zero_le _, Nat.zero_le _⟩ dX12_much_2) (fun H locs hw => ?_)
  refine lv_aload_n hx hb dX12_much_5 rfl (lv_at hl 0 rfl) ?_
  obtain ⟨r_4, σ_5, h_6, h⟩ := bd_at h
  refine q_afterI hw (q_runV C hw hl.1 (As := []) (rest := []) (m_X12_figures l E  σ_2 r_4 σ_5 h_6) yq_X12_figures tM_0 rfl rfl kw_1173 ⟨Nat.le_of_ble_eq_true rfl, Nat.le_of_ble_eq_true rfl⟩ rfl (Nat.le_of_ble_eq_true rfl) ⟨Nat.zero_le _, Nat.zero_le _⟩ dX12_much_6) (fun H locs hw => ?_)
  refine lv_istore_n (lv' := [(3, .int r_4), (0, .ref (E.2.1 (0))), (1, .int p1), (2, .ref (E.2.2.2.2 (2 + w)))]) hx hb dX12_much_9 rfl hl (by decide) rfl (fun ls hl => ?_)
  refine lv_aload_n hx hb dX12_much_10 rfl (lv_at hl 1 rfl) ?_
  refine lv_bipush (v := 32) hx hb dX12_much_11 (by decide) ?_
  obtain ⟨σ_8, h_9, h⟩ := bv_at h
  refine q_afterV hw (q_runV C hw hl.1 (As := [.int (32 : Int32)]) (rest := []) (m_X12_must l E (32 : Int32) σ_5 σ_8 h_9) yq_X12_must tM_0 rfl rfl kw_1169 ⟨Nat.le_of_ble_eq_true rfl, Nat.le_of_ble_eq_true rfl⟩ rfl (Nat.le_of_ble_eq_true rfl) ⟨Nat.zero_le _, Nat.zero_le _⟩ dX12_much_13) (fun H locs hw => ?_)
  refine lv_aload_n hx hb dX12_much_16 rfl (lv_at hl 1 rfl) ?_
  obtain ⟨σ_11, h_12, h⟩ := bv_at h
  refine q_afterV hw (q_runV C hw hl.1 (As := []) (rest := []) (m_X12_somex l E  σ_8 σ_11 h_12) yq_X12_some tM_0 rfl rfl kw_1177 ⟨Nat.le_of_ble_eq_true rfl, Nat.le_of_ble_eq_true rfl⟩ rfl (Nat.le_of_ble_eq_true rfl) ⟨Nat.zero_le _, Nat.zero_le _⟩ dX12_much_17) (fun H locs hw => ?_)
  refine lv_aload_n hx hb dX12_much_20 rfl (lv_at hl 1 rfl) ?_
  refine lv_bipush (v := (-10)) hx hb dX12_much_21 (by decide) ?_
  refine lv_bipush (v := 100) hx hb dX12_much_23 (by decide) ?_
  refine lv_iload_n hx hb dX12_much_25 rfl (lv_at hl 2 rfl) ?_
  refine lv_imul hx hb dX12_much_26 ?_
  refine lv_isub hx hb dX12_much_27 ?_
  refine lv_iload_n hx hb dX12_much_28 rfl (lv_at hl 0 rfl) ?_
  refine lv_isub hx hb dX12_much_29 ?_
  obtain ⟨σ_14, h_15, h⟩ := bv_at h
  refine q_afterV hw (q_runV C hw hl.1 (As := [.int (((-10 : Int32) - ((100 : Int32) * p1)) - r_4)]) (rest := []) (m_X12_emits l E (((-10 : Int32) - ((100 : Int32) * p1)) - r_4) σ_11 σ_14 h_15) yq_X12_emits tM_0 rfl rfl kw_1189 ⟨Nat.le_of_ble_eq_true rfl, Nat.le_of_ble_eq_true rfl⟩ rfl (Nat.le_of_ble_eq_true rfl) ⟨Nat.zero_le _, Nat.zero_le _⟩ dX12_much_30) (fun H locs hw => ?_)
  cases h
  exact q_vret C hw dX12_much_33
def f_X12_tells (w : Nat) (p1 : Int32) (σ : Mem) : Option Mem :=
  bv (f_X12_spells w σ) fun σ_2 =>
  bd (f_X12_figures σ_2) fun r_4 σ_5 =>
  if (gI σ_5 0 7) = 0 then
    (gd (ib (p1 + (gI σ_5 0 4)) 1055) <|
    lt (sI σ_5 1 (p1 + (gI σ_5 0 4)).toNatClampNeg r_4) fun σ_8 =>
    some σ_8)
  else
    some σ_5
set_option maxHeartbeats 4000000 in
set_option maxRecDepth 100000 in
theorem m_X12_tells (l : Launch) (E : EV) (w : Nat) (hs : w < 11) (p1 : Int32) (σ : Mem) (τ : Mem) (h : f_X12_tells w p1 σ = some τ) : MV TM l E yX12_tells cX12_tells 4 none 5 107 [.ref (E.2.1 (0)), .int p1, .ref (E.2.2.2.2 (2 + w))] σ τ := by
  refine mt_start RX12 (by decide +kernel) rfl (Nat.le_of_ble_eq_true rfl) (fun p e s m args below meth c ls C hw hl => ?_)
  replace hl : lv_has ls 4 [(0, .ref (E.2.1 (0))), (1, .int p1), (2, .ref (E.2.2.2.2 (2 + w)))] := hl
  obtain ⟨hx, hb, hml, hown, hts, hK, hSt, hlk, hr⟩ := id C
  unfold f_X12_tells at h
  refine lv_aload_n hx hb dX12_tells_0 rfl (lv_at hl 0 rfl) ?_
  refine lv_aload_n hx hb dX12_tells_1 rfl (lv_at hl 2 rfl) ?_
  obtain ⟨σ_2, h_3, h⟩ := bv_at h
  refine q_afterV hw (q_runV C hw hl.1 (As := [.ref (E.2.2.2.2 (2 + w))]) (rest := []) (m_X12_spells l E w hs σ σ_2 h_3) yq_X12_spells tM_0 rfl rfl kw_1163 ⟨Nat.le_of_ble_eq_true rfl, Nat.le_of_ble_eq_true rfl⟩ rfl (Nat.le_of_ble_eq_true rfl) ⟨Nat.zero_le _, Nat.zero_le _⟩ dX12_tells_2) (fun H locs hw => ?_)
  refine lv_aload_n hx hb dX12_tells_5 rfl (lv_at hl 0 rfl) ?_
  obtain ⟨r_4, σ_5, h_6, h⟩ := bd_at h
  refine q_afterI hw (q_runV C hw hl.1 (As := []) (rest := []) (m_X12_figures l E  σ_2 r_4 σ_5 h_6) yq_X12_figures tM_0 rfl rfl kw_1173 ⟨Nat.le_of_ble_eq_true rfl, Nat.le_of_ble_eq_true rfl⟩ rfl (Nat.le_of_ble_eq_true rfl) ⟨Nat.zero_le _, Nat.zero_le _⟩ dX12_tells_6) (fun H locs hw => ?_)
  refine lv_istore_n (lv' := [(3, .int r_4), (0, .ref (E.2.1 (0))), (1, .int p1), (2, .ref (E.2.2.2.2 (2 + w)))]) hx hb dX12_tells_9 rfl hl (by decide) rfl (fun ls hl => ?_)
  refine lv_aload_n hx hb dX12_tells_10 rfl (lv_at hl 1 rfl) ?_
  refine gf_12_7 C hw tM_0 kw_1025 dX12_tells_11 ?_
  refine lv_if_ne (tgt := 29) hx hb dX12_tells_14 (by decide) (fun c_7 => ?_) (fun c_7 => ?_)
  · replace h := ie_at h c_7
    cases h
    exact q_vret C hw dX12_tells_29
  · replace h := it_at h c_7
    refine lv_aload_n hx hb dX12_tells_17 rfl (lv_at hl 1 rfl) ?_
    refine gf_12_1 C hw tM_0 kw_1019 dX12_tells_18 ?_
    refine lv_iload_n hx hb dX12_tells_21 rfl (lv_at hl 2 rfl) ?_
    refine lv_aload_n hx hb dX12_tells_22 rfl (lv_at hl 1 rfl) ?_
    refine gf_12_4 C hw tM_0 kw_1022 dX12_tells_23 ?_
    refine lv_iadd hx hb dX12_tells_26 ?_
    refine lv_iload_n hx hb dX12_tells_27 rfl (lv_at hl 0 rfl) ?_
    obtain ⟨g_9, h⟩ := gd_at h
    obtain ⟨σ_8, eσ_8, h⟩ := lt_at h
    refine q_iast C hw tM_1 g_9 eσ_8 dX12_tells_28 (fun H locs hw => ?_)
    cases h
    exact q_vret C hw dX12_tells_29
def f_X12_clauseHere (σ : Mem) : Option Mem :=
  bd (f_X12_here σ) fun r_1 σ_2 =>
  if r_1 = (98 : Int32) then
    (bv (f_X12_tells 10 (141 : Int32) σ_2) fun σ_6 =>
    some σ_6)
  else
  if r_1 = (99 : Int32) then
    (bv (f_X12_tells 8 (131 : Int32) σ_2) fun σ_10 =>
    some σ_10)
  else
  if r_1 = (100 : Int32) then
    (lt (sI σ_2 0 7 (1 : Int32)) fun σ_13 =>
    some σ_13)
  else
  if r_1 = (101 : Int32) then
    (bv (f_X12_tells 9 (136 : Int32) σ_2) fun σ_16 =>
    some σ_16)
  else
  if r_1 = (102 : Int32) then
    (bv (f_X12_much 4 (0 : Int32) σ_2) fun σ_20 =>
    some σ_20)
  else
  if r_1 = (103 : Int32) then
    (lt (sI σ_2 0 7 (1 : Int32)) fun σ_23 =>
    some σ_23)
  else
  if r_1 = (104 : Int32) then
    (bv (f_X12_much 6 (2 : Int32) σ_2) fun σ_26 =>
    some σ_26)
  else
  if r_1 = (105 : Int32) then
    (lt (sI σ_2 0 7 (1 : Int32)) fun σ_29 =>
    some σ_29)
  else
  if r_1 = (106 : Int32) then
    (lt (sI σ_2 0 7 (1 : Int32)) fun σ_31 =>
    some σ_31)
  else
  if r_1 = (107 : Int32) then
    (lt (sI σ_2 0 7 (1 : Int32)) fun σ_33 =>
    some σ_33)
  else
  if r_1 = (108 : Int32) then
    (lt (sI σ_2 0 7 (1 : Int32)) fun σ_35 =>
    some σ_35)
  else
  if r_1 = (109 : Int32) then
    (bv (f_X12_much 5 (1 : Int32) σ_2) fun σ_38 =>
    some σ_38)
  else
  if r_1 = (110 : Int32) then
    (lt (sI σ_2 0 7 (1 : Int32)) fun σ_41 =>
    some σ_41)
  else
  if r_1 = (111 : Int32) then
    (lt (sI σ_2 0 7 (1 : Int32)) fun σ_43 =>
    some σ_43)
  else
  if r_1 = (112 : Int32) then
    (lt (sI σ_2 0 7 (1 : Int32)) fun σ_45 =>
    some σ_45)
  else
  if r_1 = (113 : Int32) then
    (lt (sI σ_2 0 7 (1 : Int32)) fun σ_47 =>
    some σ_47)
  else
  if r_1 = (114 : Int32) then
    (lt (sI σ_2 0 7 (1 : Int32)) fun σ_49 =>
    some σ_49)
  else
  if r_1 = (115 : Int32) then
    (lt (sI σ_2 0 7 (1 : Int32)) fun σ_51 =>
    some σ_51)
  else
  if r_1 = (116 : Int32) then
    (lt (sI σ_2 0 7 (1 : Int32)) fun σ_53 =>
    some σ_53)
  else
  if r_1 = (117 : Int32) then
    (lt (sI σ_2 0 7 (1 : Int32)) fun σ_55 =>
    some σ_55)
  else
  if r_1 = (118 : Int32) then
    (lt (sI σ_2 0 7 (1 : Int32)) fun σ_57 =>
    some σ_57)
  else
  if r_1 = (119 : Int32) then
    (bv (f_X12_much 7 (3 : Int32) σ_2) fun σ_60 =>
    some σ_60)
  else
  lt (sI σ_2 0 7 (1 : Int32)) fun σ_62 =>
  some σ_62
set_option maxHeartbeats 4000000 in
set_option maxRecDepth 100000 in
theorem m_X12_clauseHere (l : Launch) (E : EV) (σ : Mem) (τ : Mem) (h : f_X12_clauseHere  σ = some τ) : MV TM l E yX12_clauseHere cX12_clauseHere 1 none 92 2311 [.ref (E.2.1 (0))] σ τ := by
  refine mt_start RX12 (by decide +kernel) rfl (Nat.le_of_ble_eq_true rfl) (fun p e s m args below meth c ls C hw hl => ?_)
  replace hl : lv_has ls 1 [(0, .ref (E.2.1 (0)))] := hl
  obtain ⟨hx, hb, hml, hown, hts, hK, hSt, hlk, hr⟩ := id C
  unfold f_X12_clauseHere at h
  refine lv_aload_n hx hb dX12_clauseHere_0 rfl (lv_at hl 0 rfl) ?_
  obtain ⟨r_1, σ_2, h_3, h⟩ := bd_at h
  refine q_afterI hw (q_runV C hw hl.1 (As := []) (rest := []) (m_X12_here l E  σ r_1 σ_2 h_3) yq_X12_here tM_0 rfl rfl kw_1154 ⟨Nat.le_of_ble_eq_true rfl, Nat.le_of_ble_eq_true rfl⟩ rfl (Nat.le_of_ble_eq_true rfl) ⟨Nat.zero_le _, Nat.zero_le _⟩ dX12_clauseHere_1) (fun H locs hw => ?_)
  by_cases c_4 : r_1 = (98 : Int32)
  · replace h := it_at h c_4
    refine lv_tableIn (off := 168) (tgt := 172) hx hb dX12_clauseHere_4 (by rw [c_4]; decide) (by rw [c_4]; decide) (by rw [c_4]; rfl) (by decide) ?_
    refine lv_aload_n hx hb dX12_clauseHere_172 rfl (lv_at hl 0 rfl) ?_
    refine lv_sipush (v := 141) hx hb dX12_clauseHere_173 (by decide) ?_
    refine q_ldcS C (tx := "burn ") (w := 10) (List.mem_of_getElem? (i := 12) rfl) dX12_clauseHere_176 ?_
    obtain ⟨σ_6, h_7, h⟩ := bv_at h
    refine q_afterV hw (q_runV C hw hl.1 (As := [.int (141 : Int32), .ref (E.2.2.2.2 (2 + 10))]) (rest := []) (m_X12_tells l E 10 (by decide) (141 : Int32) σ_2 σ_6 h_7) yq_X12_tells tM_0 rfl rfl kw_1203 ⟨Nat.le_of_ble_eq_true rfl, Nat.le_of_ble_eq_true rfl⟩ rfl (Nat.le_of_ble_eq_true rfl) ⟨Nat.zero_le _, Nat.zero_le _⟩ dX12_clauseHere_178) (fun H locs hw => ?_)
    refine lv_goto (tgt := 189) hx hb dX12_clauseHere_181 (by decide) ?_
    cases h
    exact q_vret C hw dX12_clauseHere_189
  replace h := ie_at h c_4
  by_cases c_8 : r_1 = (99 : Int32)
  · replace h := it_at h c_8
    refine lv_tableIn (off := 144) (tgt := 148) hx hb dX12_clauseHere_4 (by rw [c_8]; decide) (by rw [c_8]; decide) (by rw [c_8]; rfl) (by decide) ?_
    refine lv_aload_n hx hb dX12_clauseHere_148 rfl (lv_at hl 0 rfl) ?_
    refine lv_sipush (v := 131) hx hb dX12_clauseHere_149 (by decide) ?_
    refine q_ldcS C (tx := "cool ") (w := 8) (List.mem_of_getElem? (i := 10) rfl) dX12_clauseHere_152 ?_
    obtain ⟨σ_10, h_11, h⟩ := bv_at h
    refine q_afterV hw (q_runV C hw hl.1 (As := [.int (131 : Int32), .ref (E.2.2.2.2 (2 + 8))]) (rest := []) (m_X12_tells l E 8 (by decide) (131 : Int32) σ_2 σ_10 h_11) yq_X12_tells tM_0 rfl rfl kw_1203 ⟨Nat.le_of_ble_eq_true rfl, Nat.le_of_ble_eq_true rfl⟩ rfl (Nat.le_of_ble_eq_true rfl) ⟨Nat.zero_le _, Nat.zero_le _⟩ dX12_clauseHere_154) (fun H locs hw => ?_)
    refine lv_goto (tgt := 189) hx hb dX12_clauseHere_157 (by decide) ?_
    cases h
    exact q_vret C hw dX12_clauseHere_189
  replace h := ie_at h c_8
  by_cases c_12 : r_1 = (100 : Int32)
  · replace h := it_at h c_12
    refine lv_tableIn (off := 180) (tgt := 184) hx hb dX12_clauseHere_4 (by rw [c_12]; decide) (by rw [c_12]; decide) (by rw [c_12]; rfl) (by decide) ?_
    refine lv_aload_n hx hb dX12_clauseHere_184 rfl (lv_at hl 0 rfl) ?_
    refine lv_iconst (v := 1) hx hb dX12_clauseHere_185 (by decide) ?_
    obtain ⟨σ_13, eσ_13, h⟩ := lt_at h
    refine pf_12_7 C hw tM_0 kw_1025 (by decide) eσ_13 dX12_clauseHere_186 (fun H locs hw => ?_)
    cases h
    exact q_vret C hw dX12_clauseHere_189
  replace h := ie_at h c_12
  by_cases c_14 : r_1 = (101 : Int32)
  · replace h := it_at h c_14
    refine lv_tableIn (off := 156) (tgt := 160) hx hb dX12_clauseHere_4 (by rw [c_14]; decide) (by rw [c_14]; decide) (by rw [c_14]; rfl) (by decide) ?_
    refine lv_aload_n hx hb dX12_clauseHere_160 rfl (lv_at hl 0 rfl) ?_
    refine lv_sipush (v := 136) hx hb dX12_clauseHere_161 (by decide) ?_
    refine q_ldcS C (tx := "edge ") (w := 9) (List.mem_of_getElem? (i := 11) rfl) dX12_clauseHere_164 ?_
    obtain ⟨σ_16, h_17, h⟩ := bv_at h
    refine q_afterV hw (q_runV C hw hl.1 (As := [.int (136 : Int32), .ref (E.2.2.2.2 (2 + 9))]) (rest := []) (m_X12_tells l E 9 (by decide) (136 : Int32) σ_2 σ_16 h_17) yq_X12_tells tM_0 rfl rfl kw_1203 ⟨Nat.le_of_ble_eq_true rfl, Nat.le_of_ble_eq_true rfl⟩ rfl (Nat.le_of_ble_eq_true rfl) ⟨Nat.zero_le _, Nat.zero_le _⟩ dX12_clauseHere_166) (fun H locs hw => ?_)
    refine lv_goto (tgt := 189) hx hb dX12_clauseHere_169 (by decide) ?_
    cases h
    exact q_vret C hw dX12_clauseHere_189
  replace h := ie_at h c_14
  by_cases c_18 : r_1 = (102 : Int32)
  · replace h := it_at h c_18
    refine lv_tableIn (off := 104) (tgt := 108) hx hb dX12_clauseHere_4 (by rw [c_18]; decide) (by rw [c_18]; decide) (by rw [c_18]; rfl) (by decide) ?_
    refine lv_aload_n hx hb dX12_clauseHere_108 rfl (lv_at hl 0 rfl) ?_
    refine lv_iconst (v := 0) hx hb dX12_clauseHere_109 (by decide) ?_
    refine q_ldcS C (tx := "fast ") (w := 4) (List.mem_of_getElem? (i := 6) rfl) dX12_clauseHere_110 ?_
    obtain ⟨σ_20, h_21, h⟩ := bv_at h
    refine q_afterV hw (q_runV C hw hl.1 (As := [.int (0 : Int32), .ref (E.2.2.2.2 (2 + 4))]) (rest := []) (m_X12_much l E 4 (by decide) (0 : Int32) σ_2 σ_20 h_21) yq_X12_much tM_0 rfl rfl kw_1159 ⟨Nat.le_of_ble_eq_true rfl, Nat.le_of_ble_eq_true rfl⟩ rfl (Nat.le_of_ble_eq_true rfl) ⟨Nat.zero_le _, Nat.zero_le _⟩ dX12_clauseHere_112) (fun H locs hw => ?_)
    refine lv_goto (tgt := 189) hx hb dX12_clauseHere_115 (by decide) ?_
    cases h
    exact q_vret C hw dX12_clauseHere_189
  replace h := ie_at h c_18
  by_cases c_22 : r_1 = (103 : Int32)
  · replace h := it_at h c_22
    refine lv_tableIn (off := 180) (tgt := 184) hx hb dX12_clauseHere_4 (by rw [c_22]; decide) (by rw [c_22]; decide) (by rw [c_22]; rfl) (by decide) ?_
    refine lv_aload_n hx hb dX12_clauseHere_184 rfl (lv_at hl 0 rfl) ?_
    refine lv_iconst (v := 1) hx hb dX12_clauseHere_185 (by decide) ?_
    obtain ⟨σ_23, eσ_23, h⟩ := lt_at h
    refine pf_12_7 C hw tM_0 kw_1025 (by decide) eσ_23 dX12_clauseHere_186 (fun H locs hw => ?_)
    cases h
    exact q_vret C hw dX12_clauseHere_189
  replace h := ie_at h c_22
  by_cases c_24 : r_1 = (104 : Int32)
  · replace h := it_at h c_24
    refine lv_tableIn (off := 124) (tgt := 128) hx hb dX12_clauseHere_4 (by rw [c_24]; decide) (by rw [c_24]; decide) (by rw [c_24]; rfl) (by decide) ?_
    refine lv_aload_n hx hb dX12_clauseHere_128 rfl (lv_at hl 0 rfl) ?_
    refine lv_iconst (v := 2) hx hb dX12_clauseHere_129 (by decide) ?_
    refine q_ldcS C (tx := "heat ") (w := 6) (List.mem_of_getElem? (i := 8) rfl) dX12_clauseHere_130 ?_
    obtain ⟨σ_26, h_27, h⟩ := bv_at h
    refine q_afterV hw (q_runV C hw hl.1 (As := [.int (2 : Int32), .ref (E.2.2.2.2 (2 + 6))]) (rest := []) (m_X12_much l E 6 (by decide) (2 : Int32) σ_2 σ_26 h_27) yq_X12_much tM_0 rfl rfl kw_1159 ⟨Nat.le_of_ble_eq_true rfl, Nat.le_of_ble_eq_true rfl⟩ rfl (Nat.le_of_ble_eq_true rfl) ⟨Nat.zero_le _, Nat.zero_le _⟩ dX12_clauseHere_132) (fun H locs hw => ?_)
    refine lv_goto (tgt := 189) hx hb dX12_clauseHere_135 (by decide) ?_
    cases h
    exact q_vret C hw dX12_clauseHere_189
  replace h := ie_at h c_24
  by_cases c_28 : r_1 = (105 : Int32)
  · replace h := it_at h c_28
    refine lv_tableIn (off := 180) (tgt := 184) hx hb dX12_clauseHere_4 (by rw [c_28]; decide) (by rw [c_28]; decide) (by rw [c_28]; rfl) (by decide) ?_
    refine lv_aload_n hx hb dX12_clauseHere_184 rfl (lv_at hl 0 rfl) ?_
    refine lv_iconst (v := 1) hx hb dX12_clauseHere_185 (by decide) ?_
    obtain ⟨σ_29, eσ_29, h⟩ := lt_at h
    refine pf_12_7 C hw tM_0 kw_1025 (by decide) eσ_29 dX12_clauseHere_186 (fun H locs hw => ?_)
    cases h
    exact q_vret C hw dX12_clauseHere_189
  replace h := ie_at h c_28
  by_cases c_30 : r_1 = (106 : Int32)
  · replace h := it_at h c_30
    refine lv_tableIn (off := 180) (tgt := 184) hx hb dX12_clauseHere_4 (by rw [c_30]; decide) (by rw [c_30]; decide) (by rw [c_30]; rfl) (by decide) ?_
    refine lv_aload_n hx hb dX12_clauseHere_184 rfl (lv_at hl 0 rfl) ?_
    refine lv_iconst (v := 1) hx hb dX12_clauseHere_185 (by decide) ?_
    obtain ⟨σ_31, eσ_31, h⟩ := lt_at h
    refine pf_12_7 C hw tM_0 kw_1025 (by decide) eσ_31 dX12_clauseHere_186 (fun H locs hw => ?_)
    cases h
    exact q_vret C hw dX12_clauseHere_189
  replace h := ie_at h c_30
  by_cases c_32 : r_1 = (107 : Int32)
  · replace h := it_at h c_32
    refine lv_tableIn (off := 180) (tgt := 184) hx hb dX12_clauseHere_4 (by rw [c_32]; decide) (by rw [c_32]; decide) (by rw [c_32]; rfl) (by decide) ?_
    refine lv_aload_n hx hb dX12_clauseHere_184 rfl (lv_at hl 0 rfl) ?_
    refine lv_iconst (v := 1) hx hb dX12_clauseHere_185 (by decide) ?_
    obtain ⟨σ_33, eσ_33, h⟩ := lt_at h
    refine pf_12_7 C hw tM_0 kw_1025 (by decide) eσ_33 dX12_clauseHere_186 (fun H locs hw => ?_)
    cases h
    exact q_vret C hw dX12_clauseHere_189
  replace h := ie_at h c_32
  by_cases c_34 : r_1 = (108 : Int32)
  · replace h := it_at h c_34
    refine lv_tableIn (off := 180) (tgt := 184) hx hb dX12_clauseHere_4 (by rw [c_34]; decide) (by rw [c_34]; decide) (by rw [c_34]; rfl) (by decide) ?_
    refine lv_aload_n hx hb dX12_clauseHere_184 rfl (lv_at hl 0 rfl) ?_
    refine lv_iconst (v := 1) hx hb dX12_clauseHere_185 (by decide) ?_
    obtain ⟨σ_35, eσ_35, h⟩ := lt_at h
    refine pf_12_7 C hw tM_0 kw_1025 (by decide) eσ_35 dX12_clauseHere_186 (fun H locs hw => ?_)
    cases h
    exact q_vret C hw dX12_clauseHere_189
  replace h := ie_at h c_34
  by_cases c_36 : r_1 = (109 : Int32)
  · replace h := it_at h c_36
    refine lv_tableIn (off := 114) (tgt := 118) hx hb dX12_clauseHere_4 (by rw [c_36]; decide) (by rw [c_36]; decide) (by rw [c_36]; rfl) (by decide) ?_
    refine lv_aload_n hx hb dX12_clauseHere_118 rfl (lv_at hl 0 rfl) ?_
    refine lv_iconst (v := 1) hx hb dX12_clauseHere_119 (by decide) ?_
    refine q_ldcS C (tx := "meal ") (w := 5) (List.mem_of_getElem? (i := 7) rfl) dX12_clauseHere_120 ?_
    obtain ⟨σ_38, h_39, h⟩ := bv_at h
    refine q_afterV hw (q_runV C hw hl.1 (As := [.int (1 : Int32), .ref (E.2.2.2.2 (2 + 5))]) (rest := []) (m_X12_much l E 5 (by decide) (1 : Int32) σ_2 σ_38 h_39) yq_X12_much tM_0 rfl rfl kw_1159 ⟨Nat.le_of_ble_eq_true rfl, Nat.le_of_ble_eq_true rfl⟩ rfl (Nat.le_of_ble_eq_true rfl) ⟨Nat.zero_le _, Nat.zero_le _⟩ dX12_clauseHere_122) (fun H locs hw => ?_)
    refine lv_goto (tgt := 189) hx hb dX12_clauseHere_125 (by decide) ?_
    cases h
    exact q_vret C hw dX12_clauseHere_189
  replace h := ie_at h c_36
  by_cases c_40 : r_1 = (110 : Int32)
  · replace h := it_at h c_40
    refine lv_tableIn (off := 180) (tgt := 184) hx hb dX12_clauseHere_4 (by rw [c_40]; decide) (by rw [c_40]; decide) (by rw [c_40]; rfl) (by decide) ?_
    refine lv_aload_n hx hb dX12_clauseHere_184 rfl (lv_at hl 0 rfl) ?_
    refine lv_iconst (v := 1) hx hb dX12_clauseHere_185 (by decide) ?_
    obtain ⟨σ_41, eσ_41, h⟩ := lt_at h
    refine pf_12_7 C hw tM_0 kw_1025 (by decide) eσ_41 dX12_clauseHere_186 (fun H locs hw => ?_)
    cases h
    exact q_vret C hw dX12_clauseHere_189
  replace h := ie_at h c_40
  by_cases c_42 : r_1 = (111 : Int32)
  · replace h := it_at h c_42
    refine lv_tableIn (off := 180) (tgt := 184) hx hb dX12_clauseHere_4 (by rw [c_42]; decide) (by rw [c_42]; decide) (by rw [c_42]; rfl) (by decide) ?_
    refine lv_aload_n hx hb dX12_clauseHere_184 rfl (lv_at hl 0 rfl) ?_
    refine lv_iconst (v := 1) hx hb dX12_clauseHere_185 (by decide) ?_
    obtain ⟨σ_43, eσ_43, h⟩ := lt_at h
    refine pf_12_7 C hw tM_0 kw_1025 (by decide) eσ_43 dX12_clauseHere_186 (fun H locs hw => ?_)
    cases h
    exact q_vret C hw dX12_clauseHere_189
  replace h := ie_at h c_42
  by_cases c_44 : r_1 = (112 : Int32)
  · replace h := it_at h c_44
    refine lv_tableIn (off := 180) (tgt := 184) hx hb dX12_clauseHere_4 (by rw [c_44]; decide) (by rw [c_44]; decide) (by rw [c_44]; rfl) (by decide) ?_
    refine lv_aload_n hx hb dX12_clauseHere_184 rfl (lv_at hl 0 rfl) ?_
    refine lv_iconst (v := 1) hx hb dX12_clauseHere_185 (by decide) ?_
    obtain ⟨σ_45, eσ_45, h⟩ := lt_at h
    refine pf_12_7 C hw tM_0 kw_1025 (by decide) eσ_45 dX12_clauseHere_186 (fun H locs hw => ?_)
    cases h
    exact q_vret C hw dX12_clauseHere_189
  replace h := ie_at h c_44
  by_cases c_46 : r_1 = (113 : Int32)
  · replace h := it_at h c_46
    refine lv_tableIn (off := 180) (tgt := 184) hx hb dX12_clauseHere_4 (by rw [c_46]; decide) (by rw [c_46]; decide) (by rw [c_46]; rfl) (by decide) ?_
    refine lv_aload_n hx hb dX12_clauseHere_184 rfl (lv_at hl 0 rfl) ?_
    refine lv_iconst (v := 1) hx hb dX12_clauseHere_185 (by decide) ?_
    obtain ⟨σ_47, eσ_47, h⟩ := lt_at h
    refine pf_12_7 C hw tM_0 kw_1025 (by decide) eσ_47 dX12_clauseHere_186 (fun H locs hw => ?_)
    cases h
    exact q_vret C hw dX12_clauseHere_189
  replace h := ie_at h c_46
  by_cases c_48 : r_1 = (114 : Int32)
  · replace h := it_at h c_48
    refine lv_tableIn (off := 180) (tgt := 184) hx hb dX12_clauseHere_4 (by rw [c_48]; decide) (by rw [c_48]; decide) (by rw [c_48]; rfl) (by decide) ?_
    refine lv_aload_n hx hb dX12_clauseHere_184 rfl (lv_at hl 0 rfl) ?_
    refine lv_iconst (v := 1) hx hb dX12_clauseHere_185 (by decide) ?_
    obtain ⟨σ_49, eσ_49, h⟩ := lt_at h
    refine pf_12_7 C hw tM_0 kw_1025 (by decide) eσ_49 dX12_clauseHere_186 (fun H locs hw => ?_)
    cases h
    exact q_vret C hw dX12_clauseHere_189
  replace h := ie_at h c_48
  by_cases c_50 : r_1 = (115 : Int32)
  · replace h := it_at h c_50
    refine lv_tableIn (off := 180) (tgt := 184) hx hb dX12_clauseHere_4 (by rw [c_50]; decide) (by rw [c_50]; decide) (by rw [c_50]; rfl) (by decide) ?_
    refine lv_aload_n hx hb dX12_clauseHere_184 rfl (lv_at hl 0 rfl) ?_
    refine lv_iconst (v := 1) hx hb dX12_clauseHere_185 (by decide) ?_
    obtain ⟨σ_51, eσ_51, h⟩ := lt_at h
    refine pf_12_7 C hw tM_0 kw_1025 (by decide) eσ_51 dX12_clauseHere_186 (fun H locs hw => ?_)
    cases h
    exact q_vret C hw dX12_clauseHere_189
  replace h := ie_at h c_50
  by_cases c_52 : r_1 = (116 : Int32)
  · replace h := it_at h c_52
    refine lv_tableIn (off := 180) (tgt := 184) hx hb dX12_clauseHere_4 (by rw [c_52]; decide) (by rw [c_52]; decide) (by rw [c_52]; rfl) (by decide) ?_
    refine lv_aload_n hx hb dX12_clauseHere_184 rfl (lv_at hl 0 rfl) ?_
    refine lv_iconst (v := 1) hx hb dX12_clauseHere_185 (by decide) ?_
    obtain ⟨σ_53, eσ_53, h⟩ := lt_at h
    refine pf_12_7 C hw tM_0 kw_1025 (by decide) eσ_53 dX12_clauseHere_186 (fun H locs hw => ?_)
    cases h
    exact q_vret C hw dX12_clauseHere_189
  replace h := ie_at h c_52
  by_cases c_54 : r_1 = (117 : Int32)
  · replace h := it_at h c_54
    refine lv_tableIn (off := 180) (tgt := 184) hx hb dX12_clauseHere_4 (by rw [c_54]; decide) (by rw [c_54]; decide) (by rw [c_54]; rfl) (by decide) ?_
    refine lv_aload_n hx hb dX12_clauseHere_184 rfl (lv_at hl 0 rfl) ?_
    refine lv_iconst (v := 1) hx hb dX12_clauseHere_185 (by decide) ?_
    obtain ⟨σ_55, eσ_55, h⟩ := lt_at h
    refine pf_12_7 C hw tM_0 kw_1025 (by decide) eσ_55 dX12_clauseHere_186 (fun H locs hw => ?_)
    cases h
    exact q_vret C hw dX12_clauseHere_189
  replace h := ie_at h c_54
  by_cases c_56 : r_1 = (118 : Int32)
  · replace h := it_at h c_56
    refine lv_tableIn (off := 180) (tgt := 184) hx hb dX12_clauseHere_4 (by rw [c_56]; decide) (by rw [c_56]; decide) (by rw [c_56]; rfl) (by decide) ?_
    refine lv_aload_n hx hb dX12_clauseHere_184 rfl (lv_at hl 0 rfl) ?_
    refine lv_iconst (v := 1) hx hb dX12_clauseHere_185 (by decide) ?_
    obtain ⟨σ_57, eσ_57, h⟩ := lt_at h
    refine pf_12_7 C hw tM_0 kw_1025 (by decide) eσ_57 dX12_clauseHere_186 (fun H locs hw => ?_)
    cases h
    exact q_vret C hw dX12_clauseHere_189
  replace h := ie_at h c_56
  by_cases c_58 : r_1 = (119 : Int32)
  · replace h := it_at h c_58
    refine lv_tableIn (off := 134) (tgt := 138) hx hb dX12_clauseHere_4 (by rw [c_58]; decide) (by rw [c_58]; decide) (by rw [c_58]; rfl) (by decide) ?_
    refine lv_aload_n hx hb dX12_clauseHere_138 rfl (lv_at hl 0 rfl) ?_
    refine lv_iconst (v := 3) hx hb dX12_clauseHere_139 (by decide) ?_
    refine q_ldcS C (tx := "wear ") (w := 7) (List.mem_of_getElem? (i := 9) rfl) dX12_clauseHere_140 ?_
    obtain ⟨σ_60, h_61, h⟩ := bv_at h
    refine q_afterV hw (q_runV C hw hl.1 (As := [.int (3 : Int32), .ref (E.2.2.2.2 (2 + 7))]) (rest := []) (m_X12_much l E 7 (by decide) (3 : Int32) σ_2 σ_60 h_61) yq_X12_much tM_0 rfl rfl kw_1159 ⟨Nat.le_of_ble_eq_true rfl, Nat.le_of_ble_eq_true rfl⟩ rfl (Nat.le_of_ble_eq_true rfl) ⟨Nat.zero_le _, Nat.zero_le _⟩ dX12_clauseHere_142) (fun H locs hw => ?_)
    refine lv_goto (tgt := 189) hx hb dX12_clauseHere_145 (by decide) ?_
    cases h
    exact q_vret C hw dX12_clauseHere_189
  replace h := ie_at h c_58
  refine lv_tableOut (tgt := 184) hx hb dX12_clauseHere_4 (tsw_out (fun k h1 h2 => by
    rcases (show k = 98 ∨ k = 99 ∨ k = 100 ∨ k = 101 ∨ k = 102 ∨ k = 103 ∨ k = 104 ∨ k = 105 ∨ k = 106 ∨ k = 107 ∨ k = 108 ∨ k = 109 ∨ k = 110 ∨ k = 111 ∨ k = 112 ∨ k = 113 ∨ k = 114 ∨ k = 115 ∨ k = 116 ∨ k = 117 ∨ k = 118 ∨ k = 119 by omega) with rfl | rfl | rfl | rfl | rfl | rfl | rfl | rfl | rfl | rfl | rfl | rfl | rfl | rfl | rfl | rfl | rfl | rfl | rfl | rfl | rfl | rfl
    · exact c_4
    · exact c_8
    · exact c_12
    · exact c_14
    · exact c_18
    · exact c_22
    · exact c_24
    · exact c_28
    · exact c_30
    · exact c_32
    · exact c_34
    · exact c_36
    · exact c_40
    · exact c_42
    · exact c_44
    · exact c_46
    · exact c_48
    · exact c_50
    · exact c_52
    · exact c_54
    · exact c_56
    · exact c_58)) (by decide) ?_
  refine lv_aload_n hx hb dX12_clauseHere_184 rfl (lv_at hl 0 rfl) ?_
  refine lv_iconst (v := 1) hx hb dX12_clauseHere_185 (by decide) ?_
  obtain ⟨σ_62, eσ_62, h⟩ := lt_at h
  refine pf_12_7 C hw tM_0 kw_1025 (by decide) eσ_62 dX12_clauseHere_186 (fun H locs hw => ?_)
  cases h
  exact q_vret C hw dX12_clauseHere_189
def f_X12_mill_161 (σ : Mem) : Option (Int32 × Mem) :=
  if (gI σ 0 7) = 0 then
    (if (gI σ 0 5) = (gI σ 0 6) then
      (lt (sI σ 1 0 ((gI σ 1 0) + (1 : Int32))) fun σ_32 =>
      some (gI σ_32 0 4, σ_32))
    else
      some ((-10 : Int32) - (gI σ 0 5), σ))
  else
    some ((-10 : Int32) - (gI σ 0 5), σ)
def f_X12_mill_119 (k119 : Int32 → Mem → Option (Int32 × Mem)) (x1 : Int32) (σ : Mem) : Option (Int32 × Mem) :=
  if (gI σ 0 7) = 0 then
    (if (10 : Int32) ≤ x1 then
      (f_X12_mill_161  σ)
    else
      bd (f_X12_here σ) fun r_21 σ_22 =>
      if r_21 = (59 : Int32) then
        (lt (sI σ_22 0 5 ((gI σ_22 0 5) + (1 : Int32))) fun σ_25 =>
        bv (f_X12_clauseHere σ_25) fun σ_27 =>
        lt (x1 + (1 : Int32)) fun x1_29 =>
        k119 x1_29 σ_27)
      else
        f_X12_mill_161  σ_22)
  else
    f_X12_mill_161  σ
def f_X12_mill (σ : Mem) : Option (Int32 × Mem) :=
  if (gI σ 1 0) = (5 : Int32) then
    (some ((-4 : Int32), σ))
  else
    lt (sI σ 0 4 (gI σ 1 0)) fun σ_2 =>
    lt (sI σ_2 0 6 (gI σ_2 1 4)) fun σ_3 =>
    lt (sI σ_3 1 4 (0 : Int32)) fun σ_4 =>
    gd (ib ((131 : Int32) + (gI σ_4 0 4)) 1055) <|
    lt (sI σ_4 1 ((131 : Int32) + (gI σ_4 0 4)).toNatClampNeg (0 : Int32)) fun σ_5 =>
    gd (ib ((136 : Int32) + (gI σ_5 0 4)) 1055) <|
    lt (sI σ_5 1 ((136 : Int32) + (gI σ_5 0 4)).toNatClampNeg (99 : Int32)) fun σ_7 =>
    gd (ib ((141 : Int32) + (gI σ_7 0 4)) 1055) <|
    lt (sI σ_7 1 ((141 : Int32) + (gI σ_7 0 4)).toNatClampNeg (99 : Int32)) fun σ_9 =>
    gd (ib ((146 : Int32) + (gI σ_9 0 4)) 1055) <|
    lt (sI σ_9 1 ((146 : Int32) + (gI σ_9 0 4)).toNatClampNeg (0 : Int32)) fun σ_11 =>
    lt (sI σ_11 0 5 (0 : Int32)) fun σ_13 =>
    lt (sI σ_13 0 7 (0 : Int32)) fun σ_14 =>
    lt (sI σ_14 0 8 (0 : Int32)) fun σ_15 =>
    bv (f_X12_clauseHere σ_15) fun σ_17 =>
    fx2 (f_X12_mill_119) FU (1 : Int32) σ_17
set_option maxHeartbeats 4000000 in
set_option maxRecDepth 100000 in
theorem w_X12_mill_161 {p : Program} {l : Launch} {e : Env} {s : State} {m : MethodId} {args : Array Value} {below : List Frame} {meth : Method} {c : Code} {E : EV} {rr : Int32} {τ : Mem} (C : Cx E p s m args meth c cX12_mill 2 (some .int) RX12) : ∀ (σ : Mem) (H : Heap) (locs : List Loc) (ls : Array Slot) (hw : Wd TM E σ s H locs) (hl : lv_has ls 2 [(0, .ref (E.2.1 (0)))]) (h : f_X12_mill_161  σ = some (rr, τ)), W p l e { frames := 93, cells := 0, slots := 0, locals := 2331 } s m args below meth c H locs 0 0 (MQ below (QI TM E rr τ) args s 0 0 E.2.2.1) (F0 m 161 ls []) := by
  obtain ⟨hx, hb, hml, hown, hts, hK, hSt, hlk, hr⟩ := id C
  intro  σ H locs ls hw hl h
  unfold f_X12_mill_161 at h
  refine lv_aload_n hx hb dX12_mill_161 rfl (lv_at hl 0 rfl) ?_
  refine gf_12_7 C hw tM_0 kw_1025 dX12_mill_162 ?_
  refine lv_if_ne (tgt := 179) hx hb dX12_mill_165 (by decide) (fun c_30 => ?_) (fun c_30 => ?_)
  · replace h := ie_at h c_30
    refine lv_bipush (v := (-10)) hx hb dX12_mill_179 (by decide) ?_
    refine lv_aload_n hx hb dX12_mill_181 rfl (lv_at hl 0 rfl) ?_
    refine gf_12_5 C hw tM_0 kw_1023 dX12_mill_182 ?_
    refine lv_isub hx hb dX12_mill_185 ?_
    obtain ⟨rfl, rfl⟩ := ret_at h
    exact q_iret C hw dX12_mill_186
  · replace h := it_at h c_30
    refine lv_aload_n hx hb dX12_mill_168 rfl (lv_at hl 0 rfl) ?_
    refine gf_12_5 C hw tM_0 kw_1023 dX12_mill_169 ?_
    refine lv_aload_n hx hb dX12_mill_172 rfl (lv_at hl 0 rfl) ?_
    refine gf_12_6 C hw tM_0 kw_1024 dX12_mill_173 ?_
    refine lv_icmp_eq (tgt := 187) hx hb dX12_mill_176 (by decide) (fun c_31 => ?_) (fun c_31 => ?_)
    · replace h := it_at h c_31
      refine lv_aload_n hx hb dX12_mill_187 rfl (lv_at hl 0 rfl) ?_
      refine gf_12_1 C hw tM_0 kw_1019 dX12_mill_188 ?_
      refine lv_iconst (v := 0) hx hb dX12_mill_191 (by decide) ?_
      refine lv_dup2_11 hx hb dX12_mill_192 rfl rfl ?_
      refine q_ialdk C hw tM_1 (k := 0) (by rfl) (by decide) (by decide) dX12_mill_193 ?_
      refine lv_iconst (v := 1) hx hb dX12_mill_194 (by decide) ?_
      refine lv_iadd hx hb dX12_mill_195 ?_
      obtain ⟨σ_32, eσ_32, h⟩ := lt_at h
      refine q_iastk C hw tM_1 (k := 0) (by rfl) (by decide) (by decide) eσ_32 dX12_mill_196 (fun H locs hw => ?_)
      refine lv_aload_n hx hb dX12_mill_197 rfl (lv_at hl 0 rfl) ?_
      refine gf_12_4 C hw tM_0 kw_1022 dX12_mill_198 ?_
      obtain ⟨rfl, rfl⟩ := ret_at h
      exact q_iret C hw dX12_mill_201
    · replace h := ie_at h c_31
      refine lv_bipush (v := (-10)) hx hb dX12_mill_179 (by decide) ?_
      refine lv_aload_n hx hb dX12_mill_181 rfl (lv_at hl 0 rfl) ?_
      refine gf_12_5 C hw tM_0 kw_1023 dX12_mill_182 ?_
      refine lv_isub hx hb dX12_mill_185 ?_
      obtain ⟨rfl, rfl⟩ := ret_at h
      exact q_iret C hw dX12_mill_186
set_option maxHeartbeats 4000000 in
set_option maxRecDepth 100000 in
theorem w_X12_mill_119 {p : Program} {l : Launch} {e : Env} {s : State} {m : MethodId} {args : Array Value} {below : List Frame} {meth : Method} {c : Code} {E : EV} {rr : Int32} {τ : Mem} (C : Cx E p s m args meth c cX12_mill 2 (some .int) RX12) : ∀ (n : Nat) (x1 : Int32) (σ : Mem) (H : Heap) (locs : List Loc) (ls : Array Slot) (hw : Wd TM E σ s H locs) (hl : lv_has ls 2 [(0, .ref (E.2.1 (0))), (1, .int x1)]) (h : fx2 (f_X12_mill_119) n x1 σ = some (rr, τ)), W p l e { frames := 93, cells := 0, slots := 0, locals := 2331 } s m args below meth c H locs 0 0 (MQ below (QI TM E rr τ) args s 0 0 E.2.2.1) (F0 m 119 ls []) := by
  obtain ⟨hx, hb, hml, hown, hts, hK, hSt, hlk, hr⟩ := id C
  intro n
  induction n with
  | zero =>
    intro x1 σ H locs ls hw hl h
    have h : none = some (rr, τ) := h
    cases h
  | succ n hk119 =>
    intro x1 σ H locs ls hw hl h
    replace h : f_X12_mill_119 (fx2 (f_X12_mill_119) n) x1 σ = some (rr, τ) := h
    unfold f_X12_mill_119 at h
    refine lv_aload_n hx hb dX12_mill_119 rfl (lv_at hl 0 rfl) ?_
    refine gf_12_7 C hw tM_0 kw_1025 dX12_mill_120 ?_
    refine lv_if_ne (tgt := 161) hx hb dX12_mill_123 (by decide) (fun c_19 => ?_) (fun c_19 => ?_)
    · replace h := ie_at h c_19
      exact w_X12_mill_161 C  _ _ _ _ hw (lv_sub hl [0] rfl) h
    · replace h := it_at h c_19
      refine lv_iload_n hx hb dX12_mill_126 rfl (lv_at hl 1 rfl) ?_
      refine lv_bipush (v := 10) hx hb dX12_mill_127 (by decide) ?_
      refine lv_icmp_ge (tgt := 161) hx hb dX12_mill_129 (by decide) (fun c_20 => ?_) (fun c_20 => ?_)
      · replace h := it_at h c_20
        exact w_X12_mill_161 C  _ _ _ _ hw (lv_sub hl [0] rfl) h
      · replace h := ie_at h c_20
        refine lv_aload_n hx hb dX12_mill_132 rfl (lv_at hl 0 rfl) ?_
        obtain ⟨r_21, σ_22, h_23, h⟩ := bd_at h
        refine q_afterI hw (q_runV C hw hl.1 (As := []) (rest := []) (m_X12_here l E  σ r_21 σ_22 h_23) yq_X12_here tM_0 rfl rfl kw_1154 ⟨Nat.le_of_ble_eq_true rfl, Nat.le_of_ble_eq_true rfl⟩ rfl (Nat.le_of_ble_eq_true rfl) ⟨Nat.zero_le _, Nat.zero_le _⟩ dX12_mill_133) (fun H locs hw => ?_)
        refine lv_bipush (v := 59) hx hb dX12_mill_136 (by decide) ?_
        refine lv_icmp_ne (tgt := 161) hx hb dX12_mill_138 (by decide) (fun c_24 => ?_) (fun c_24 => ?_)
        · replace h := ie_at h c_24
          exact w_X12_mill_161 C  _ _ _ _ hw (lv_sub hl [0] rfl) h
        · replace h := it_at h c_24
          refine lv_aload_n hx hb dX12_mill_141 rfl (lv_at hl 0 rfl) ?_
          refine lv_dup hx hb dX12_mill_142 rfl ?_
          refine gf_12_5 C hw tM_0 kw_1023 dX12_mill_143 ?_
          refine lv_iconst (v := 1) hx hb dX12_mill_146 (by decide) ?_
          refine lv_iadd hx hb dX12_mill_147 ?_
          obtain ⟨σ_25, eσ_25, h⟩ := lt_at h
          refine pf_12_5 C hw tM_0 kw_1023 eσ_25 dX12_mill_148 (fun H locs hw => ?_)
          refine lv_aload_n hx hb dX12_mill_151 rfl (lv_at hl 0 rfl) ?_
          obtain ⟨σ_27, h_28, h⟩ := bv_at h
          refine q_afterV hw (q_runV C hw hl.1 (As := []) (rest := []) (m_X12_clauseHere l E  σ_25 σ_27 h_28) yq_X12_clauseHere tM_0 rfl rfl kw_1150 ⟨Nat.le_of_ble_eq_true rfl, Nat.le_of_ble_eq_true rfl⟩ rfl (Nat.le_of_ble_eq_true rfl) ⟨Nat.zero_le _, Nat.zero_le _⟩ dX12_mill_152) (fun H locs hw => ?_)
          obtain ⟨x1_29, ex1_29, h⟩ := lt_at h
          refine lv_iinc (v := x1_29) (lv' := [(1, .int x1_29), (0, .ref (E.2.1 (0)))]) hx hb dX12_mill_155 hl (k := 1) rfl (by rw [ex1_29]; rfl) (by decide) rfl (fun ls hl => ?_)
          refine lv_goto (tgt := 119) hx hb dX12_mill_158 (by decide) ?_
          exact hk119 _ _ _ _ _ hw (lv_sub hl [1, 0] rfl) h
set_option maxHeartbeats 4000000 in
set_option maxRecDepth 100000 in
theorem m_X12_mill (l : Launch) (E : EV) (σ : Mem) (rr : Int32) (τ : Mem) (h : f_X12_mill  σ = some (rr, τ)) : MI TM l E yX12_mill cX12_mill 2 (some .int) 93 2331 [.ref (E.2.1 (0))] σ rr τ := by
  refine mt_start RX12 (by decide +kernel) rfl (Nat.le_of_ble_eq_true rfl) (fun p e s m args below meth c ls C hw hl => ?_)
  replace hl : lv_has ls 2 [(0, .ref (E.2.1 (0)))] := hl
  obtain ⟨hx, hb, hml, hown, hts, hK, hSt, hlk, hr⟩ := id C
  unfold f_X12_mill at h
  refine lv_aload_n hx hb dX12_mill_0 rfl (lv_at hl 0 rfl) ?_
  refine gf_12_1 C hw tM_0 kw_1019 dX12_mill_1 ?_
  refine lv_iconst (v := 0) hx hb dX12_mill_4 (by decide) ?_
  refine q_ialdk C hw tM_1 (k := 0) (by rfl) (by decide) (by decide) dX12_mill_5 ?_
  refine lv_iconst (v := 5) hx hb dX12_mill_6 (by decide) ?_
  refine lv_icmp_ne (tgt := 13) hx hb dX12_mill_7 (by decide) (fun c_1 => ?_) (fun c_1 => ?_)
  · replace h := ie_at h c_1
    refine lv_aload_n hx hb dX12_mill_13 rfl (lv_at hl 0 rfl) ?_
    refine lv_aload_n hx hb dX12_mill_14 rfl (lv_at hl 0 rfl) ?_
    refine gf_12_1 C hw tM_0 kw_1019 dX12_mill_15 ?_
    refine lv_iconst (v := 0) hx hb dX12_mill_18 (by decide) ?_
    refine q_ialdk C hw tM_1 (k := 0) (by rfl) (by decide) (by decide) dX12_mill_19 ?_
    obtain ⟨σ_2, eσ_2, h⟩ := lt_at h
    refine pf_12_4 C hw tM_0 kw_1022 eσ_2 dX12_mill_20 (fun H locs hw => ?_)
    refine lv_aload_n hx hb dX12_mill_23 rfl (lv_at hl 0 rfl) ?_
    refine lv_aload_n hx hb dX12_mill_24 rfl (lv_at hl 0 rfl) ?_
    refine gf_12_1 C hw tM_0 kw_1019 dX12_mill_25 ?_
    refine lv_iconst (v := 4) hx hb dX12_mill_28 (by decide) ?_
    refine q_ialdk C hw tM_1 (k := 4) (by rfl) (by decide) (by decide) dX12_mill_29 ?_
    obtain ⟨σ_3, eσ_3, h⟩ := lt_at h
    refine pf_12_6 C hw tM_0 kw_1024 eσ_3 dX12_mill_30 (fun H locs hw => ?_)
    refine lv_aload_n hx hb dX12_mill_33 rfl (lv_at hl 0 rfl) ?_
    refine gf_12_1 C hw tM_0 kw_1019 dX12_mill_34 ?_
    refine lv_iconst (v := 4) hx hb dX12_mill_37 (by decide) ?_
    refine lv_iconst (v := 0) hx hb dX12_mill_38 (by decide) ?_
    obtain ⟨σ_4, eσ_4, h⟩ := lt_at h
    refine q_iastk C hw tM_1 (k := 4) (by rfl) (by decide) (by decide) eσ_4 dX12_mill_39 (fun H locs hw => ?_)
    refine lv_aload_n hx hb dX12_mill_40 rfl (lv_at hl 0 rfl) ?_
    refine gf_12_1 C hw tM_0 kw_1019 dX12_mill_41 ?_
    refine lv_sipush (v := 131) hx hb dX12_mill_44 (by decide) ?_
    refine lv_aload_n hx hb dX12_mill_47 rfl (lv_at hl 0 rfl) ?_
    refine gf_12_4 C hw tM_0 kw_1022 dX12_mill_48 ?_
    refine lv_iadd hx hb dX12_mill_51 ?_
    refine lv_iconst (v := 0) hx hb dX12_mill_52 (by decide) ?_
    obtain ⟨g_6, h⟩ := gd_at h
    obtain ⟨σ_5, eσ_5, h⟩ := lt_at h
    refine q_iast C hw tM_1 g_6 eσ_5 dX12_mill_53 (fun H locs hw => ?_)
    refine lv_aload_n hx hb dX12_mill_54 rfl (lv_at hl 0 rfl) ?_
    refine gf_12_1 C hw tM_0 kw_1019 dX12_mill_55 ?_
    refine lv_sipush (v := 136) hx hb dX12_mill_58 (by decide) ?_
    refine lv_aload_n hx hb dX12_mill_61 rfl (lv_at hl 0 rfl) ?_
    refine gf_12_4 C hw tM_0 kw_1022 dX12_mill_62 ?_
    refine lv_iadd hx hb dX12_mill_65 ?_
    refine lv_bipush (v := 99) hx hb dX12_mill_66 (by decide) ?_
    obtain ⟨g_8, h⟩ := gd_at h
    obtain ⟨σ_7, eσ_7, h⟩ := lt_at h
    refine q_iast C hw tM_1 g_8 eσ_7 dX12_mill_68 (fun H locs hw => ?_)
    refine lv_aload_n hx hb dX12_mill_69 rfl (lv_at hl 0 rfl) ?_
    refine gf_12_1 C hw tM_0 kw_1019 dX12_mill_70 ?_
    refine lv_sipush (v := 141) hx hb dX12_mill_73 (by decide) ?_
    refine lv_aload_n hx hb dX12_mill_76 rfl (lv_at hl 0 rfl) ?_
    refine gf_12_4 C hw tM_0 kw_1022 dX12_mill_77 ?_
    refine lv_iadd hx hb dX12_mill_80 ?_
    refine lv_bipush (v := 99) hx hb dX12_mill_81 (by decide) ?_
    obtain ⟨g_10, h⟩ := gd_at h
    obtain ⟨σ_9, eσ_9, h⟩ := lt_at h
    refine q_iast C hw tM_1 g_10 eσ_9 dX12_mill_83 (fun H locs hw => ?_)
    refine lv_aload_n hx hb dX12_mill_84 rfl (lv_at hl 0 rfl) ?_
    refine gf_12_1 C hw tM_0 kw_1019 dX12_mill_85 ?_
    refine lv_sipush (v := 146) hx hb dX12_mill_88 (by decide) ?_
    refine lv_aload_n hx hb dX12_mill_91 rfl (lv_at hl 0 rfl) ?_
    refine gf_12_4 C hw tM_0 kw_1022 dX12_mill_92 ?_
    refine lv_iadd hx hb dX12_mill_95 ?_
    refine lv_iconst (v := 0) hx hb dX12_mill_96 (by decide) ?_
    obtain ⟨g_12, h⟩ := gd_at h
    obtain ⟨σ_11, eσ_11, h⟩ := lt_at h
    refine q_iast C hw tM_1 g_12 eσ_11 dX12_mill_97 (fun H locs hw => ?_)
    refine lv_aload_n hx hb dX12_mill_98 rfl (lv_at hl 0 rfl) ?_
    refine lv_iconst (v := 0) hx hb dX12_mill_99 (by decide) ?_
    obtain ⟨σ_13, eσ_13, h⟩ := lt_at h
    refine pf_12_5 C hw tM_0 kw_1023 eσ_13 dX12_mill_100 (fun H locs hw => ?_)
    refine lv_aload_n hx hb dX12_mill_103 rfl (lv_at hl 0 rfl) ?_
    refine lv_iconst (v := 0) hx hb dX12_mill_104 (by decide) ?_
    obtain ⟨σ_14, eσ_14, h⟩ := lt_at h
    refine pf_12_7 C hw tM_0 kw_1025 (by decide) eσ_14 dX12_mill_105 (fun H locs hw => ?_)
    refine lv_aload_n hx hb dX12_mill_108 rfl (lv_at hl 0 rfl) ?_
    refine lv_iconst (v := 0) hx hb dX12_mill_109 (by decide) ?_
    obtain ⟨σ_15, eσ_15, h⟩ := lt_at h
    refine pf_12_8 C hw tM_0 kw_1026 eσ_15 dX12_mill_110 (fun H locs hw => ?_)
    refine lv_iconst (v := 1) hx hb dX12_mill_113 (by decide) ?_
    refine lv_istore_n (lv' := [(1, .int (1 : Int32)), (0, .ref (E.2.1 (0)))]) hx hb dX12_mill_114 rfl hl (by decide) rfl (fun ls hl => ?_)
    refine lv_aload_n hx hb dX12_mill_115 rfl (lv_at hl 1 rfl) ?_
    obtain ⟨σ_17, h_18, h⟩ := bv_at h
    refine q_afterV hw (q_runV C hw hl.1 (As := []) (rest := []) (m_X12_clauseHere l E  σ_15 σ_17 h_18) yq_X12_clauseHere tM_0 rfl rfl kw_1150 ⟨Nat.le_of_ble_eq_true rfl, Nat.le_of_ble_eq_true rfl⟩ rfl (Nat.le_of_ble_eq_true rfl) ⟨Nat.zero_le _, Nat.zero_le _⟩ dX12_mill_116) (fun H locs hw => ?_)
    exact w_X12_mill_119 C _ _ _ _ _ _ hw (lv_sub hl [1, 0] rfl) h
  · replace h := it_at h c_1
    refine lv_bipush (v := (-4)) hx hb dX12_mill_10 (by decide) ?_
    obtain ⟨rfl, rfl⟩ := ret_at h
    exact q_iret C hw dX12_mill_12
def f_X12_feed_34 (k34 : Int64 → Int32 → Mem → Option (Int32 × Mem)) (x1 : Int64) (x4 : Int32) (σ : Mem) : Option (Int32 × Mem) :=
  if x4 < 0 then
    (some (gI σ 1 4, σ))
  else
    gd (ib ((11 : Int32) + (gI σ 1 4)) 1055) <|
    lt (sI σ 1 ((11 : Int32) + (gI σ 1 4)).toNatClampNeg (((x1 >>> (((8 : Int32) * x4).toInt64 &&& 63)) &&& (255 : Int64)).toInt32)) fun σ_8 =>
    lt (sI σ_8 1 4 ((gI σ_8 1 4) + (1 : Int32))) fun σ_10 =>
    lt (x4 + (-1 : Int32)) fun x4_11 =>
    k34 x1 x4_11 σ_10
def f_X12_feed (p1 : Int64) (p3 : Int32) (σ : Mem) : Option (Int32 × Mem) :=
  bd (f_X12_in p3 (1 : Int32) (8 : Int32) σ) fun r_1 σ_2 =>
  if r_1 = 0 then
    (some ((-2 : Int32), σ_2))
  else
    if ((gI σ_2 1 4) + p3) ≤ (120 : Int32) then
      (lt (p3 - (1 : Int32)) fun x4_6 =>
      fx3 (f_X12_feed_34) FU p1 x4_6 σ_2)
    else
      some ((-4 : Int32), σ_2)
set_option maxHeartbeats 4000000 in
set_option maxRecDepth 100000 in
theorem w_X12_feed_34 {p : Program} {l : Launch} {e : Env} {s : State} {m : MethodId} {args : Array Value} {below : List Frame} {meth : Method} {c : Code} {E : EV} {rr : Int32} {τ : Mem} (C : Cx E p s m args meth c cX12_feed 5 (some .int) RX12) : ∀ (n : Nat) (x1 : Int64) (x4 : Int32) (σ : Mem) (H : Heap) (locs : List Loc) (ls : Array Slot) (hw : Wd TM E σ s H locs) (hl : lv_has ls 5 [(0, .ref (E.2.1 (0))), (1, .long x1), (4, .int x4)]) (h : fx3 (f_X12_feed_34) n x1 x4 σ = some (rr, τ)), W p l e { frames := 1, cells := 0, slots := 0, locals := 22 } s m args below meth c H locs 0 0 (MQ below (QI TM E rr τ) args s 0 0 E.2.2.1) (F0 m 34 ls []) := by
  obtain ⟨hx, hb, hml, hown, hts, hK, hSt, hlk, hr⟩ := id C
  intro n
  induction n with
  | zero =>
    intro x1 x4 σ H locs ls hw hl h
    have h : none = some (rr, τ) := h
    cases h
  | succ n hk34 =>
    intro x1 x4 σ H locs ls hw hl h
    replace h : f_X12_feed_34 (fx3 (f_X12_feed_34) n) x1 x4 σ = some (rr, τ) := h
    unfold f_X12_feed_34 at h
    refine lv_iload hx hb dX12_feed_34 (lv_at hl 2 rfl) ?_
    refine lv_if_lt (tgt := 81) hx hb dX12_feed_36 (by decide) (fun c_7 => ?_) (fun c_7 => ?_)
    · replace h := it_at h c_7
      refine lv_aload_n hx hb dX12_feed_81 rfl (lv_at hl 0 rfl) ?_
      refine gf_12_1 C hw tM_0 kw_1019 dX12_feed_82 ?_
      refine lv_iconst (v := 4) hx hb dX12_feed_85 (by decide) ?_
      refine q_ialdk C hw tM_1 (k := 4) (by rfl) (by decide) (by decide) dX12_feed_86 ?_
      obtain ⟨rfl, rfl⟩ := ret_at h
      exact q_iret C hw dX12_feed_87
    · replace h := ie_at h c_7
      refine lv_aload_n hx hb dX12_feed_39 rfl (lv_at hl 0 rfl) ?_
      refine gf_12_1 C hw tM_0 kw_1019 dX12_feed_40 ?_
      refine lv_bipush (v := 11) hx hb dX12_feed_43 (by decide) ?_
      refine lv_aload_n hx hb dX12_feed_45 rfl (lv_at hl 0 rfl) ?_
      refine gf_12_1 C hw tM_0 kw_1019 dX12_feed_46 ?_
      refine lv_iconst (v := 4) hx hb dX12_feed_49 (by decide) ?_
      refine q_ialdk C hw tM_1 (k := 4) (by rfl) (by decide) (by decide) dX12_feed_50 ?_
      refine lv_iadd hx hb dX12_feed_51 ?_
      refine lv_lload_n hx hb dX12_feed_52 rfl (lv_at hl 1 rfl) ?_
      refine lv_bipush (v := 8) hx hb dX12_feed_53 (by decide) ?_
      refine lv_iload hx hb dX12_feed_55 (lv_at hl 2 rfl) ?_
      refine lv_imul hx hb dX12_feed_57 ?_
      refine lv_lshr hx hb dX12_feed_58 rfl ?_
      refine lv_ldc2 hx hb hown (hts _ kw_1145) dX12_feed_59 ?_
      refine lv_land hx hb dX12_feed_62 ?_
      refine lv_l2i hx hb dX12_feed_63 rfl ?_
      obtain ⟨g_9, h⟩ := gd_at h
      obtain ⟨σ_8, eσ_8, h⟩ := lt_at h
      refine q_iast C hw tM_1 g_9 eσ_8 dX12_feed_64 (fun H locs hw => ?_)
      refine lv_aload_n hx hb dX12_feed_65 rfl (lv_at hl 0 rfl) ?_
      refine gf_12_1 C hw tM_0 kw_1019 dX12_feed_66 ?_
      refine lv_iconst (v := 4) hx hb dX12_feed_69 (by decide) ?_
      refine lv_dup2_11 hx hb dX12_feed_70 rfl rfl ?_
      refine q_ialdk C hw tM_1 (k := 4) (by rfl) (by decide) (by decide) dX12_feed_71 ?_
      refine lv_iconst (v := 1) hx hb dX12_feed_72 (by decide) ?_
      refine lv_iadd hx hb dX12_feed_73 ?_
      obtain ⟨σ_10, eσ_10, h⟩ := lt_at h
      refine q_iastk C hw tM_1 (k := 4) (by rfl) (by decide) (by decide) eσ_10 dX12_feed_74 (fun H locs hw => ?_)
      obtain ⟨x4_11, ex4_11, h⟩ := lt_at h
      refine lv_iinc (v := x4_11) (lv' := [(4, .int x4_11), (0, .ref (E.2.1 (0))), (1, .long x1)]) hx hb dX12_feed_75 hl (k := 2) rfl (by rw [ex4_11]; rfl) (by decide) rfl (fun ls hl => ?_)
      refine lv_goto (tgt := 34) hx hb dX12_feed_78 (by decide) ?_
      exact hk34 _ _ _ _ _ _ hw (lv_sub hl [1, 2, 0] rfl) h
set_option maxHeartbeats 4000000 in
set_option maxRecDepth 100000 in
theorem m_X12_feed (l : Launch) (E : EV) (p1 : Int64) (p3 : Int32) (σ : Mem) (rr : Int32) (τ : Mem) (h : f_X12_feed p1 p3 σ = some (rr, τ)) : MI TM l E yX12_feed cX12_feed 5 (some .int) 1 22 [.ref (E.2.1 (0)), .long p1, .int p3] σ rr τ := by
  refine mt_start RX12 (by decide +kernel) rfl (Nat.le_of_ble_eq_true rfl) (fun p e s m args below meth c ls C hw hl => ?_)
  replace hl : lv_has ls 5 [(0, .ref (E.2.1 (0))), (1, .long p1), (3, .int p3)] := hl
  obtain ⟨hx, hb, hml, hown, hts, hK, hSt, hlk, hr⟩ := id C
  unfold f_X12_feed at h
  refine lv_iload_n hx hb dX12_feed_0 rfl (lv_at hl 2 rfl) ?_
  refine lv_iconst (v := 1) hx hb dX12_feed_1 (by decide) ?_
  refine lv_bipush (v := 8) hx hb dX12_feed_2 (by decide) ?_
  obtain ⟨r_1, σ_2, h_3, h⟩ := bd_at h
  refine q_afterI hw (q_runS C hw hl.1 (As := [.int p3, .int (1 : Int32), .int (8 : Int32)]) (rest := []) (m_X12_in l E p3 (1 : Int32) (8 : Int32) σ r_1 σ_2 h_3) yq_X12_in kw_1142 ⟨Nat.le_of_ble_eq_true rfl, Nat.le_of_ble_eq_true rfl⟩ rfl (Nat.le_of_ble_eq_true rfl) ⟨Nat.zero_le _, Nat.zero_le _⟩ dX12_feed_4) (fun H locs hw => ?_)
  refine lv_if_ne (tgt := 13) hx hb dX12_feed_7 (by decide) (fun c_4 => ?_) (fun c_4 => ?_)
  · replace h := ie_at h c_4
    refine lv_aload_n hx hb dX12_feed_13 rfl (lv_at hl 0 rfl) ?_
    refine gf_12_1 C hw tM_0 kw_1019 dX12_feed_14 ?_
    refine lv_iconst (v := 4) hx hb dX12_feed_17 (by decide) ?_
    refine q_ialdk C hw tM_1 (k := 4) (by rfl) (by decide) (by decide) dX12_feed_18 ?_
    refine lv_iload_n hx hb dX12_feed_19 rfl (lv_at hl 2 rfl) ?_
    refine lv_iadd hx hb dX12_feed_20 ?_
    refine lv_bipush (v := 120) hx hb dX12_feed_21 (by decide) ?_
    refine lv_icmp_le (tgt := 29) hx hb dX12_feed_23 (by decide) (fun c_5 => ?_) (fun c_5 => ?_)
    · replace h := it_at h c_5
      refine lv_iload_n hx hb dX12_feed_29 rfl (lv_at hl 2 rfl) ?_
      refine lv_iconst (v := 1) hx hb dX12_feed_30 (by decide) ?_
      refine lv_isub hx hb dX12_feed_31 ?_
      obtain ⟨x4_6, ex4_6, h⟩ := lt_at h
      refine q_top ex4_6 ?_
      refine lv_istore (lv' := [(4, .int x4_6), (0, .ref (E.2.1 (0))), (1, .long p1), (3, .int p3)]) hx hb dX12_feed_32 hl (by decide) rfl (fun ls hl => ?_)
      exact w_X12_feed_34 C _ _ _ _ _ _ _ hw (lv_sub hl [1, 2, 0] rfl) h
    · replace h := ie_at h c_5
      refine lv_bipush (v := (-4)) hx hb dX12_feed_26 (by decide) ?_
      obtain ⟨rfl, rfl⟩ := ret_at h
      exact q_iret C hw dX12_feed_28
  · replace h := it_at h c_4
    refine lv_bipush (v := (-2)) hx hb dX12_feed_10 (by decide) ?_
    obtain ⟨rfl, rfl⟩ := ret_at h
    exact q_iret C hw dX12_feed_12
def f_X12_isMill (p1 : Int32) (σ : Mem) : Option (Int32 × Mem) :=
  bd (f_X12_in p1 (0 : Int32) ((gI σ 1 0) - (1 : Int32)) σ) fun r_1 σ_2 =>
  gd (iz r_1) (some (r_1, σ_2))
set_option maxHeartbeats 4000000 in
set_option maxRecDepth 100000 in
theorem m_X12_isMill (l : Launch) (E : EV) (p1 : Int32) (σ : Mem) (rr : Int32) (τ : Mem) (h : f_X12_isMill p1 σ = some (rr, τ)) : MI TM l E yX12_isMill cX12_isMill 2 (some .boolean) 1 22 [.ref (E.2.1 (0)), .int p1] σ rr τ := by
  refine mt_start RX12 (by decide +kernel) rfl (Nat.le_of_ble_eq_true rfl) (fun p e s m args below meth c ls C hw hl => ?_)
  replace hl : lv_has ls 2 [(0, .ref (E.2.1 (0))), (1, .int p1)] := hl
  obtain ⟨hx, hb, hml, hown, hts, hK, hSt, hlk, hr⟩ := id C
  unfold f_X12_isMill at h
  refine lv_iload_n hx hb dX12_isMill_0 rfl (lv_at hl 1 rfl) ?_
  refine lv_iconst (v := 0) hx hb dX12_isMill_1 (by decide) ?_
  refine lv_aload_n hx hb dX12_isMill_2 rfl (lv_at hl 0 rfl) ?_
  refine gf_12_1 C hw tM_0 kw_1019 dX12_isMill_3 ?_
  refine lv_iconst (v := 0) hx hb dX12_isMill_6 (by decide) ?_
  refine q_ialdk C hw tM_1 (k := 0) (by rfl) (by decide) (by decide) dX12_isMill_7 ?_
  refine lv_iconst (v := 1) hx hb dX12_isMill_8 (by decide) ?_
  refine lv_isub hx hb dX12_isMill_9 ?_
  obtain ⟨r_1, σ_2, h_3, h⟩ := bd_at h
  refine q_afterI hw (q_runS C hw hl.1 (As := [.int p1, .int (0 : Int32), .int ((gI σ 1 0) - (1 : Int32))]) (rest := []) (m_X12_in l E p1 (0 : Int32) ((gI σ 1 0) - (1 : Int32)) σ r_1 σ_2 h_3) yq_X12_in kw_1142 ⟨Nat.le_of_ble_eq_true rfl, Nat.le_of_ble_eq_true rfl⟩ rfl (Nat.le_of_ble_eq_true rfl) ⟨Nat.zero_le _, Nat.zero_le _⟩ dX12_isMill_10) (fun H locs hw => ?_)
  obtain ⟨g_4, h⟩ := gd_at h
  obtain ⟨rfl, rfl⟩ := ret_at h
  exact q_zret C g_4 hw dX12_isMill_13
def f_X12_isWind (p0 : Int32) (σ : Mem) : Option (Int32 × Mem) :=
  bd (f_X12_in p0 (0 : Int32) (5 : Int32) σ) fun r_1 σ_2 =>
  gd (iz r_1) (some (r_1, σ_2))
set_option maxHeartbeats 4000000 in
set_option maxRecDepth 100000 in
theorem m_X12_isWind (l : Launch) (E : EV) (p0 : Int32) (σ : Mem) (rr : Int32) (τ : Mem) (h : f_X12_isWind p0 σ = some (rr, τ)) : MI TM l E yX12_isWind cX12_isWind 1 (some .boolean) 1 22 [.int p0] σ rr τ := by
  refine mt_start RX12 (by decide +kernel) rfl (Nat.le_of_ble_eq_true rfl) (fun p e s m args below meth c ls C hw hl => ?_)
  replace hl : lv_has ls 1 [(0, .int p0)] := hl
  obtain ⟨hx, hb, hml, hown, hts, hK, hSt, hlk, hr⟩ := id C
  unfold f_X12_isWind at h
  refine lv_iload_n hx hb dX12_isWind_0 rfl (lv_at hl 0 rfl) ?_
  refine lv_iconst (v := 0) hx hb dX12_isWind_1 (by decide) ?_
  refine lv_iconst (v := 5) hx hb dX12_isWind_2 (by decide) ?_
  obtain ⟨r_1, σ_2, h_3, h⟩ := bd_at h
  refine q_afterI hw (q_runS C hw hl.1 (As := [.int p0, .int (0 : Int32), .int (5 : Int32)]) (rest := []) (m_X12_in l E p0 (0 : Int32) (5 : Int32) σ r_1 σ_2 h_3) yq_X12_in kw_1142 ⟨Nat.le_of_ble_eq_true rfl, Nat.le_of_ble_eq_true rfl⟩ rfl (Nat.le_of_ble_eq_true rfl) ⟨Nat.zero_le _, Nat.zero_le _⟩ dX12_isWind_3) (fun H locs hw => ?_)
  obtain ⟨g_4, h⟩ := gd_at h
  obtain ⟨rfl, rfl⟩ := ret_at h
  exact q_zret C g_4 hw dX12_isWind_6
def f_X12_together_303 (k16 : Int32 → Int32 → Int32 → Int32 → Int32 → Mem → Option (Int32 × Mem)) (x1 : Int32) (x2 : Int32) (x3 : Int32) (x4 : Int32) (x5 : Int32) (σ : Mem) : Option (Int32 × Mem) :=
  lt (x5 + (1 : Int32)) fun x5_45 =>
  k16 x1 x2 x3 x4 x5_45 σ
def f_X12_together_258 (k16 : Int32 → Int32 → Int32 → Int32 → Int32 → Mem → Option (Int32 × Mem)) (x1 : Int32) (x2 : Int32) (x3 : Int32) (x4 : Int32) (x5 : Int32) (s1 : Int32) (s2 : Int32) (σ : Mem) : Option (Int32 × Mem) :=
  gd (ib s1 64) <|
  gd (iz s2) <|
  lt (sI σ 4 s1.toNatClampNeg s2) fun σ_35 =>
  f_X12_together_303 k16 x1 x2 x3 x4 x5 σ_35
def f_X12_together_229 (k16 : Int32 → Int32 → Int32 → Int32 → Int32 → Mem → Option (Int32 × Mem)) (x1 : Int32) (x2 : Int32) (x3 : Int32) (x4 : Int32) (x5 : Int32) (s1 : Int32) (σ : Mem) : Option (Int32 × Mem) :=
  f_X12_together_258 k16 x1 x2 x3 x4 x5 s1 (0 : Int32) σ
def f_X12_together_300 (k16 : Int32 → Int32 → Int32 → Int32 → Int32 → Mem → Option (Int32 × Mem)) (x1 : Int32) (x2 : Int32) (x3 : Int32) (x5 : Int32) (s0 : Int32) (s1 : Int32) (σ : Mem) : Option (Int32 × Mem) :=
  lt (s0 + s1) fun x4_34 =>
  f_X12_together_303 k16 x1 x2 x3 x4_34 x5 σ
def f_X12_together_299 (k16 : Int32 → Int32 → Int32 → Int32 → Int32 → Mem → Option (Int32 × Mem)) (x1 : Int32) (x2 : Int32) (x3 : Int32) (x5 : Int32) (s0 : Int32) (σ : Mem) : Option (Int32 × Mem) :=
  f_X12_together_300 k16 x1 x2 x3 x5 s0 (0 : Int32) σ
def f_X12_together_141 (k16 : Int32 → Int32 → Int32 → Int32 → Int32 → Mem → Option (Int32 × Mem)) (x1 : Int32) (x2 : Int32) (x3 : Int32) (x4 : Int32) (x5 : Int32) (s1 : Int32) (s2 : Int32) (σ : Mem) : Option (Int32 × Mem) :=
  gd (ib s1 64) <|
  gd (iz s2) <|
  lt (sI σ 4 s1.toNatClampNeg s2) fun σ_41 =>
  lt (x3 + (1 : Int32)) fun x3_44 =>
  f_X12_together_303 k16 x1 x2 x3_44 x4 x5 σ_41
def f_X12_together_177 (k16 : Int32 → Int32 → Int32 → Int32 → Int32 → Mem → Option (Int32 × Mem)) (x1 : Int32) (x2 : Int32) (x3 : Int32) (x4 : Int32) (x5 : Int32) (s1 : Int32) (s2 : Int32) (σ : Mem) : Option (Int32 × Mem) :=
  gd (ib s1 64) <|
  gd (iz s2) <|
  lt (sI σ 4 s1.toNatClampNeg s2) fun σ_38 =>
  f_X12_together_303 k16 x1 x2 x3 x4 x5 σ_38
def f_X12_together_253 (k16 : Int32 → Int32 → Int32 → Int32 → Int32 → Mem → Option (Int32 × Mem)) (x1 : Int32) (x2 : Int32) (x3 : Int32) (x4 : Int32) (x5 : Int32) (s1 : Int32) (σ : Mem) : Option (Int32 × Mem) :=
  f_X12_together_258 k16 x1 x2 x3 x4 x5 s1 (1 : Int32) σ
def f_X12_together_16 (k16 : Int32 → Int32 → Int32 → Int32 → Int32 → Mem → Option (Int32 × Mem)) (x1 : Int32) (x2 : Int32) (x3 : Int32) (x4 : Int32) (x5 : Int32) (σ : Mem) : Option (Int32 × Mem) :=
  gd (ib ((146 : Int32) + x1) 1055) <|
  if (((151 : Int32) + ((140 : Int32) * x1)) + (gI σ 1 ((146 : Int32) + x1).toNatClampNeg)) ≤ x5 then
    (some (x4, σ))
  else
    gd (ib x5 1055) <|
    lt (gI σ 1 x5.toNatClampNeg) fun x6_5 =>
    if x6_5 < 0 then
      (if x6_5 = (-1 : Int32) then
        (gd (ib (x3 - (1 : Int32)) 64) <|
        if (gI σ 4 (x3 - (1 : Int32)).toNatClampNeg) = 0 then
          (f_X12_together_177 k16 x1 x2 x3 x4 x5 (x3 - (1 : Int32)) (1 : Int32) σ)
        else
          f_X12_together_177 k16 x1 x2 x3 x4 x5 (x3 - (1 : Int32)) (0 : Int32) σ)
      else
        if x6_5 ≤ (-10 : Int32) then
          (lt ((-10 : Int32) - x6_5) fun x7_9 =>
          gd (ib (0 : Int32) 64) <|
          if (gI σ 4 (0 : Int32).toNatClampNeg) = 0 then
            (f_X12_together_299 k16 x1 x2 (0 : Int32) x5 x4 σ)
          else
            if (x7_9 / (100 : Int32)) = x2 then
              (f_X12_together_300 k16 x1 x2 (0 : Int32) x5 x4 (irm x7_9 (100 : Int32)) σ)
            else
              f_X12_together_299 k16 x1 x2 (0 : Int32) x5 x4 σ)
        else
          lt (x3 + (-1 : Int32)) fun x3_13 =>
          if x6_5 = (-2 : Int32) then
            (gd (ib (x3_13 - (1 : Int32)) 64) <|
            if (gI σ 4 (x3_13 - (1 : Int32)).toNatClampNeg) = 0 then
              (f_X12_together_229 k16 x1 x2 x3_13 x4 x5 (x3_13 - (1 : Int32)) σ)
            else
              gd (ib x3_13 64) <|
              if (gI σ 4 x3_13.toNatClampNeg) = 0 then
                (f_X12_together_229 k16 x1 x2 x3_13 x4 x5 (x3_13 - (1 : Int32)) σ)
              else
                f_X12_together_258 k16 x1 x2 x3_13 x4 x5 (x3_13 - (1 : Int32)) (1 : Int32) σ)
          else
            gd (ib (x3_13 - (1 : Int32)) 64) <|
            if (gI σ 4 (x3_13 - (1 : Int32)).toNatClampNeg) = 0 then
              (gd (ib x3_13 64) <|
              if (gI σ 4 x3_13.toNatClampNeg) = 0 then
                (f_X12_together_258 k16 x1 x2 x3_13 x4 x5 (x3_13 - (1 : Int32)) (0 : Int32) σ)
              else
                f_X12_together_253 k16 x1 x2 x3_13 x4 x5 (x3_13 - (1 : Int32)) σ)
            else
              f_X12_together_253 k16 x1 x2 x3_13 x4 x5 (x3_13 - (1 : Int32)) σ)
    else
      gd (ib (irm x6_5 (8 : Int32)) 6) <|
      lt (gI σ 3 (irm x6_5 (8 : Int32)).toNatClampNeg) fun x7_26 =>
      lt (irm (x6_5 / (8 : Int32)) (4 : Int32)) fun x8_27 =>
      lt (x6_5 / (32 : Int32)) fun x9_28 =>
      if x8_27 = 0 then
        (if x9_28 ≤ x7_26 then
          (f_X12_together_141 k16 x1 x2 x3 x4 x5 x3 (0 : Int32) σ)
        else
          f_X12_together_141 k16 x1 x2 x3 x4 x5 x3 (1 : Int32) σ)
      else
        if x8_27 = (1 : Int32) then
          (if x7_26 = x9_28 then
            (f_X12_together_141 k16 x1 x2 x3 x4 x5 x3 (1 : Int32) σ)
          else
            f_X12_together_141 k16 x1 x2 x3 x4 x5 x3 (0 : Int32) σ)
        else
          if x7_26 ≤ x9_28 then
            (f_X12_together_141 k16 x1 x2 x3 x4 x5 x3 (0 : Int32) σ)
          else
            f_X12_together_141 k16 x1 x2 x3 x4 x5 x3 (1 : Int32) σ
def f_X12_together (p1 : Int32) (p2 : Int32) (σ : Mem) : Option (Int32 × Mem) :=
  lt ((151 : Int32) + ((140 : Int32) * p1)) fun x5_1 =>
  fx6 (f_X12_together_16) FU p1 p2 (0 : Int32) (0 : Int32) x5_1 σ
set_option maxHeartbeats 4000000 in
set_option maxRecDepth 100000 in
theorem w_X12_together_303 {p : Program} {l : Launch} {e : Env} {s : State} {m : MethodId} {args : Array Value} {below : List Frame} {meth : Method} {c : Code} {E : EV} {rr : Int32} {τ : Mem} (C : Cx E p s m args meth c cX12_together 10 (some .int) RX12) (k16 : Int32 → Int32 → Int32 → Int32 → Int32 → Mem → Option (Int32 × Mem)) (hk16 : ∀ (x1 : Int32) (x2 : Int32) (x3 : Int32) (x4 : Int32) (x5 : Int32) (σ : Mem) (H : Heap) (locs : List Loc) (ls : Array Slot) (hw : Wd TM E σ s H locs) (hl : lv_has ls 10 [(0, .ref (E.2.1 (0))), (1, .int x1), (2, .int x2), (3, .int x3), (4, .int x4), (5, .int x5)]) (h : k16 x1 x2 x3 x4 x5 σ = some (rr, τ)), W p l e { frames := 0, cells := 0, slots := 0, locals := 0 } s m args below meth c H locs 0 0 (MQ below (QI TM E rr τ) args s 0 0 E.2.2.1) (F0 m 16 ls [])) : ∀ (x1 : Int32) (x2 : Int32) (x3 : Int32) (x4 : Int32) (x5 : Int32) (σ : Mem) (H : Heap) (locs : List Loc) (ls : Array Slot) (hw : Wd TM E σ s H locs) (hl : lv_has ls 10 [(0, .ref (E.2.1 (0))), (1, .int x1), (2, .int x2), (3, .int x3), (4, .int x4), (5, .int x5)]) (h : f_X12_together_303 k16 x1 x2 x3 x4 x5 σ = some (rr, τ)), W p l e { frames := 0, cells := 0, slots := 0, locals := 0 } s m args below meth c H locs 0 0 (MQ below (QI TM E rr τ) args s 0 0 E.2.2.1) (F0 m 303 ls []) := by
  obtain ⟨hx, hb, hml, hown, hts, hK, hSt, hlk, hr⟩ := id C
  intro x1 x2 x3 x4 x5 σ H locs ls hw hl h
  unfold f_X12_together_303 at h
  obtain ⟨x5_45, ex5_45, h⟩ := lt_at h
  refine lv_iinc (v := x5_45) (lv' := [(5, .int x5_45), (0, .ref (E.2.1 (0))), (1, .int x1), (2, .int x2), (3, .int x3), (4, .int x4)]) hx hb dX12_together_303 hl (k := 5) rfl (by rw [ex5_45]; rfl) (by decide) rfl (fun ls hl => ?_)
  refine lv_goto (tgt := 16) hx hb dX12_together_306 (by decide) ?_
  exact hk16 _ _ _ _ _ _ _ _ _ hw (lv_sub hl [1, 2, 3, 4, 5, 0] rfl) h
set_option maxHeartbeats 4000000 in
set_option maxRecDepth 100000 in
theorem w_X12_together_258 {p : Program} {l : Launch} {e : Env} {s : State} {m : MethodId} {args : Array Value} {below : List Frame} {meth : Method} {c : Code} {E : EV} {rr : Int32} {τ : Mem} (C : Cx E p s m args meth c cX12_together 10 (some .int) RX12) (k16 : Int32 → Int32 → Int32 → Int32 → Int32 → Mem → Option (Int32 × Mem)) (hk16 : ∀ (x1 : Int32) (x2 : Int32) (x3 : Int32) (x4 : Int32) (x5 : Int32) (σ : Mem) (H : Heap) (locs : List Loc) (ls : Array Slot) (hw : Wd TM E σ s H locs) (hl : lv_has ls 10 [(0, .ref (E.2.1 (0))), (1, .int x1), (2, .int x2), (3, .int x3), (4, .int x4), (5, .int x5)]) (h : k16 x1 x2 x3 x4 x5 σ = some (rr, τ)), W p l e { frames := 0, cells := 0, slots := 0, locals := 0 } s m args below meth c H locs 0 0 (MQ below (QI TM E rr τ) args s 0 0 E.2.2.1) (F0 m 16 ls [])) : ∀ (x1 : Int32) (x2 : Int32) (x3 : Int32) (x4 : Int32) (x5 : Int32) (s1 : Int32) (s2 : Int32) (σ : Mem) (H : Heap) (locs : List Loc) (ls : Array Slot) (hw : Wd TM E σ s H locs) (hl : lv_has ls 10 [(0, .ref (E.2.1 (0))), (1, .int x1), (2, .int x2), (3, .int x3), (4, .int x4), (5, .int x5)]) (h : f_X12_together_258 k16 x1 x2 x3 x4 x5 s1 s2 σ = some (rr, τ)), W p l e { frames := 0, cells := 0, slots := 0, locals := 0 } s m args below meth c H locs 0 0 (MQ below (QI TM E rr τ) args s 0 0 E.2.2.1) (F0 m 258 ls [.int s2, .int s1, .ref (E.2.1 (4))]) := by
  obtain ⟨hx, hb, hml, hown, hts, hK, hSt, hlk, hr⟩ := id C
  intro x1 x2 x3 x4 x5 s1 s2 σ H locs ls hw hl h
  unfold f_X12_together_258 at h
  obtain ⟨g_36, h⟩ := gd_at h
  obtain ⟨g_37, h⟩ := gd_at h
  obtain ⟨σ_35, eσ_35, h⟩ := lt_at h
  refine q_zast C hw tM_4 g_36 g_37 eσ_35 dX12_together_258 (fun H locs hw => ?_)
  refine lv_goto (tgt := 303) hx hb dX12_together_259 (by decide) ?_
  exact w_X12_together_303 C _ hk16 _ _ _ _ _ _ _ _ _ hw (lv_sub hl [0, 1, 2, 3, 4, 5] rfl) h
set_option maxHeartbeats 4000000 in
set_option maxRecDepth 100000 in
theorem w_X12_together_229 {p : Program} {l : Launch} {e : Env} {s : State} {m : MethodId} {args : Array Value} {below : List Frame} {meth : Method} {c : Code} {E : EV} {rr : Int32} {τ : Mem} (C : Cx E p s m args meth c cX12_together 10 (some .int) RX12) (k16 : Int32 → Int32 → Int32 → Int32 → Int32 → Mem → Option (Int32 × Mem)) (hk16 : ∀ (x1 : Int32) (x2 : Int32) (x3 : Int32) (x4 : Int32) (x5 : Int32) (σ : Mem) (H : Heap) (locs : List Loc) (ls : Array Slot) (hw : Wd TM E σ s H locs) (hl : lv_has ls 10 [(0, .ref (E.2.1 (0))), (1, .int x1), (2, .int x2), (3, .int x3), (4, .int x4), (5, .int x5)]) (h : k16 x1 x2 x3 x4 x5 σ = some (rr, τ)), W p l e { frames := 0, cells := 0, slots := 0, locals := 0 } s m args below meth c H locs 0 0 (MQ below (QI TM E rr τ) args s 0 0 E.2.2.1) (F0 m 16 ls [])) : ∀ (x1 : Int32) (x2 : Int32) (x3 : Int32) (x4 : Int32) (x5 : Int32) (s1 : Int32) (σ : Mem) (H : Heap) (locs : List Loc) (ls : Array Slot) (hw : Wd TM E σ s H locs) (hl : lv_has ls 10 [(0, .ref (E.2.1 (0))), (1, .int x1), (2, .int x2), (3, .int x3), (4, .int x4), (5, .int x5)]) (h : f_X12_together_229 k16 x1 x2 x3 x4 x5 s1 σ = some (rr, τ)), W p l e { frames := 0, cells := 0, slots := 0, locals := 0 } s m args below meth c H locs 0 0 (MQ below (QI TM E rr τ) args s 0 0 E.2.2.1) (F0 m 229 ls [.int s1, .ref (E.2.1 (4))]) := by
  obtain ⟨hx, hb, hml, hown, hts, hK, hSt, hlk, hr⟩ := id C
  intro x1 x2 x3 x4 x5 s1 σ H locs ls hw hl h
  unfold f_X12_together_229 at h
  refine lv_iconst (v := 0) hx hb dX12_together_229 (by decide) ?_
  refine lv_goto (tgt := 258) hx hb dX12_together_230 (by decide) ?_
  exact w_X12_together_258 C _ hk16 _ _ _ _ _ _ _ _ _ _ _ hw (lv_sub hl [0, 1, 2, 3, 4, 5] rfl) h
set_option maxHeartbeats 4000000 in
set_option maxRecDepth 100000 in
theorem w_X12_together_300 {p : Program} {l : Launch} {e : Env} {s : State} {m : MethodId} {args : Array Value} {below : List Frame} {meth : Method} {c : Code} {E : EV} {rr : Int32} {τ : Mem} (C : Cx E p s m args meth c cX12_together 10 (some .int) RX12) (k16 : Int32 → Int32 → Int32 → Int32 → Int32 → Mem → Option (Int32 × Mem)) (hk16 : ∀ (x1 : Int32) (x2 : Int32) (x3 : Int32) (x4 : Int32) (x5 : Int32) (σ : Mem) (H : Heap) (locs : List Loc) (ls : Array Slot) (hw : Wd TM E σ s H locs) (hl : lv_has ls 10 [(0, .ref (E.2.1 (0))), (1, .int x1), (2, .int x2), (3, .int x3), (4, .int x4), (5, .int x5)]) (h : k16 x1 x2 x3 x4 x5 σ = some (rr, τ)), W p l e { frames := 0, cells := 0, slots := 0, locals := 0 } s m args below meth c H locs 0 0 (MQ below (QI TM E rr τ) args s 0 0 E.2.2.1) (F0 m 16 ls [])) : ∀ (x1 : Int32) (x2 : Int32) (x3 : Int32) (x5 : Int32) (s0 : Int32) (s1 : Int32) (σ : Mem) (H : Heap) (locs : List Loc) (ls : Array Slot) (hw : Wd TM E σ s H locs) (hl : lv_has ls 10 [(0, .ref (E.2.1 (0))), (1, .int x1), (2, .int x2), (3, .int x3), (5, .int x5)]) (h : f_X12_together_300 k16 x1 x2 x3 x5 s0 s1 σ = some (rr, τ)), W p l e { frames := 0, cells := 0, slots := 0, locals := 0 } s m args below meth c H locs 0 0 (MQ below (QI TM E rr τ) args s 0 0 E.2.2.1) (F0 m 300 ls [.int s1, .int s0]) := by
  obtain ⟨hx, hb, hml, hown, hts, hK, hSt, hlk, hr⟩ := id C
  intro x1 x2 x3 x5 s0 s1 σ H locs ls hw hl h
  unfold f_X12_together_300 at h
  refine lv_iadd hx hb dX12_together_300 ?_
  obtain ⟨x4_34, ex4_34, h⟩ := lt_at h
  refine q_top ex4_34 ?_
  refine lv_istore (lv' := [(4, .int x4_34), (0, .ref (E.2.1 (0))), (1, .int x1), (2, .int x2), (3, .int x3), (5, .int x5)]) hx hb dX12_together_301 hl (by decide) rfl (fun ls hl => ?_)
  exact w_X12_together_303 C _ hk16 _ _ _ _ _ _ _ _ _ hw (lv_sub hl [1, 2, 3, 4, 0, 5] rfl) h
set_option maxHeartbeats 4000000 in
set_option maxRecDepth 100000 in
theorem w_X12_together_299 {p : Program} {l : Launch} {e : Env} {s : State} {m : MethodId} {args : Array Value} {below : List Frame} {meth : Method} {c : Code} {E : EV} {rr : Int32} {τ : Mem} (C : Cx E p s m args meth c cX12_together 10 (some .int) RX12) (k16 : Int32 → Int32 → Int32 → Int32 → Int32 → Mem → Option (Int32 × Mem)) (hk16 : ∀ (x1 : Int32) (x2 : Int32) (x3 : Int32) (x4 : Int32) (x5 : Int32) (σ : Mem) (H : Heap) (locs : List Loc) (ls : Array Slot) (hw : Wd TM E σ s H locs) (hl : lv_has ls 10 [(0, .ref (E.2.1 (0))), (1, .int x1), (2, .int x2), (3, .int x3), (4, .int x4), (5, .int x5)]) (h : k16 x1 x2 x3 x4 x5 σ = some (rr, τ)), W p l e { frames := 0, cells := 0, slots := 0, locals := 0 } s m args below meth c H locs 0 0 (MQ below (QI TM E rr τ) args s 0 0 E.2.2.1) (F0 m 16 ls [])) : ∀ (x1 : Int32) (x2 : Int32) (x3 : Int32) (x5 : Int32) (s0 : Int32) (σ : Mem) (H : Heap) (locs : List Loc) (ls : Array Slot) (hw : Wd TM E σ s H locs) (hl : lv_has ls 10 [(0, .ref (E.2.1 (0))), (1, .int x1), (2, .int x2), (3, .int x3), (5, .int x5)]) (h : f_X12_together_299 k16 x1 x2 x3 x5 s0 σ = some (rr, τ)), W p l e { frames := 0, cells := 0, slots := 0, locals := 0 } s m args below meth c H locs 0 0 (MQ below (QI TM E rr τ) args s 0 0 E.2.2.1) (F0 m 299 ls [.int s0]) := by
  obtain ⟨hx, hb, hml, hown, hts, hK, hSt, hlk, hr⟩ := id C
  intro x1 x2 x3 x5 s0 σ H locs ls hw hl h
  unfold f_X12_together_299 at h
  refine lv_iconst (v := 0) hx hb dX12_together_299 (by decide) ?_
  exact w_X12_together_300 C _ hk16 _ _ _ _ _ _ _ _ _ _ hw (lv_sub hl [0, 1, 2, 3, 4] rfl) h
set_option maxHeartbeats 4000000 in
set_option maxRecDepth 100000 in
theorem w_X12_together_141 {p : Program} {l : Launch} {e : Env} {s : State} {m : MethodId} {args : Array Value} {below : List Frame} {meth : Method} {c : Code} {E : EV} {rr : Int32} {τ : Mem} (C : Cx E p s m args meth c cX12_together 10 (some .int) RX12) (k16 : Int32 → Int32 → Int32 → Int32 → Int32 → Mem → Option (Int32 × Mem)) (hk16 : ∀ (x1 : Int32) (x2 : Int32) (x3 : Int32) (x4 : Int32) (x5 : Int32) (σ : Mem) (H : Heap) (locs : List Loc) (ls : Array Slot) (hw : Wd TM E σ s H locs) (hl : lv_has ls 10 [(0, .ref (E.2.1 (0))), (1, .int x1), (2, .int x2), (3, .int x3), (4, .int x4), (5, .int x5)]) (h : k16 x1 x2 x3 x4 x5 σ = some (rr, τ)), W p l e { frames := 0, cells := 0, slots := 0, locals := 0 } s m args below meth c H locs 0 0 (MQ below (QI TM E rr τ) args s 0 0 E.2.2.1) (F0 m 16 ls [])) : ∀ (x1 : Int32) (x2 : Int32) (x3 : Int32) (x4 : Int32) (x5 : Int32) (s1 : Int32) (s2 : Int32) (σ : Mem) (H : Heap) (locs : List Loc) (ls : Array Slot) (hw : Wd TM E σ s H locs) (hl : lv_has ls 10 [(0, .ref (E.2.1 (0))), (1, .int x1), (2, .int x2), (3, .int x3), (4, .int x4), (5, .int x5)]) (h : f_X12_together_141 k16 x1 x2 x3 x4 x5 s1 s2 σ = some (rr, τ)), W p l e { frames := 0, cells := 0, slots := 0, locals := 0 } s m args below meth c H locs 0 0 (MQ below (QI TM E rr τ) args s 0 0 E.2.2.1) (F0 m 141 ls [.int s2, .int s1, .ref (E.2.1 (4))]) := by
  obtain ⟨hx, hb, hml, hown, hts, hK, hSt, hlk, hr⟩ := id C
  intro x1 x2 x3 x4 x5 s1 s2 σ H locs ls hw hl h
  unfold f_X12_together_141 at h
  obtain ⟨g_42, h⟩ := gd_at h
  obtain ⟨g_43, h⟩ := gd_at h
  obtain ⟨σ_41, eσ_41, h⟩ := lt_at h
  refine q_zast C hw tM_4 g_42 g_43 eσ_41 dX12_together_141 (fun H locs hw => ?_)
  obtain ⟨x3_44, ex3_44, h⟩ := lt_at h
  refine lv_iinc (v := x3_44) (lv' := [(3, .int x3_44), (0, .ref (E.2.1 (0))), (1, .int x1), (2, .int x2), (4, .int x4), (5, .int x5)]) hx hb dX12_together_142 hl (k := 3) rfl (by rw [ex3_44]; rfl) (by decide) rfl (fun ls hl => ?_)
  refine lv_goto (tgt := 303) hx hb dX12_together_145 (by decide) ?_
  exact w_X12_together_303 C _ hk16 _ _ _ _ _ _ _ _ _ hw (lv_sub hl [1, 2, 3, 0, 4, 5] rfl) h
set_option maxHeartbeats 4000000 in
set_option maxRecDepth 100000 in
theorem w_X12_together_177 {p : Program} {l : Launch} {e : Env} {s : State} {m : MethodId} {args : Array Value} {below : List Frame} {meth : Method} {c : Code} {E : EV} {rr : Int32} {τ : Mem} (C : Cx E p s m args meth c cX12_together 10 (some .int) RX12) (k16 : Int32 → Int32 → Int32 → Int32 → Int32 → Mem → Option (Int32 × Mem)) (hk16 : ∀ (x1 : Int32) (x2 : Int32) (x3 : Int32) (x4 : Int32) (x5 : Int32) (σ : Mem) (H : Heap) (locs : List Loc) (ls : Array Slot) (hw : Wd TM E σ s H locs) (hl : lv_has ls 10 [(0, .ref (E.2.1 (0))), (1, .int x1), (2, .int x2), (3, .int x3), (4, .int x4), (5, .int x5)]) (h : k16 x1 x2 x3 x4 x5 σ = some (rr, τ)), W p l e { frames := 0, cells := 0, slots := 0, locals := 0 } s m args below meth c H locs 0 0 (MQ below (QI TM E rr τ) args s 0 0 E.2.2.1) (F0 m 16 ls [])) : ∀ (x1 : Int32) (x2 : Int32) (x3 : Int32) (x4 : Int32) (x5 : Int32) (s1 : Int32) (s2 : Int32) (σ : Mem) (H : Heap) (locs : List Loc) (ls : Array Slot) (hw : Wd TM E σ s H locs) (hl : lv_has ls 10 [(0, .ref (E.2.1 (0))), (1, .int x1), (2, .int x2), (3, .int x3), (4, .int x4), (5, .int x5)]) (h : f_X12_together_177 k16 x1 x2 x3 x4 x5 s1 s2 σ = some (rr, τ)), W p l e { frames := 0, cells := 0, slots := 0, locals := 0 } s m args below meth c H locs 0 0 (MQ below (QI TM E rr τ) args s 0 0 E.2.2.1) (F0 m 177 ls [.int s2, .int s1, .ref (E.2.1 (4))]) := by
  obtain ⟨hx, hb, hml, hown, hts, hK, hSt, hlk, hr⟩ := id C
  intro x1 x2 x3 x4 x5 s1 s2 σ H locs ls hw hl h
  unfold f_X12_together_177 at h
  obtain ⟨g_39, h⟩ := gd_at h
  obtain ⟨g_40, h⟩ := gd_at h
  obtain ⟨σ_38, eσ_38, h⟩ := lt_at h
  refine q_zast C hw tM_4 g_39 g_40 eσ_38 dX12_together_177 (fun H locs hw => ?_)
  refine lv_goto (tgt := 303) hx hb dX12_together_178 (by decide) ?_
  exact w_X12_together_303 C _ hk16 _ _ _ _ _ _ _ _ _ hw (lv_sub hl [0, 1, 2, 3, 4, 5] rfl) h
set_option maxHeartbeats 4000000 in
set_option maxRecDepth 100000 in
theorem w_X12_together_253 {p : Program} {l : Launch} {e : Env} {s : State} {m : MethodId} {args : Array Value} {below : List Frame} {meth : Method} {c : Code} {E : EV} {rr : Int32} {τ : Mem} (C : Cx E p s m args meth c cX12_together 10 (some .int) RX12) (k16 : Int32 → Int32 → Int32 → Int32 → Int32 → Mem → Option (Int32 × Mem)) (hk16 : ∀ (x1 : Int32) (x2 : Int32) (x3 : Int32) (x4 : Int32) (x5 : Int32) (σ : Mem) (H : Heap) (locs : List Loc) (ls : Array Slot) (hw : Wd TM E σ s H locs) (hl : lv_has ls 10 [(0, .ref (E.2.1 (0))), (1, .int x1), (2, .int x2), (3, .int x3), (4, .int x4), (5, .int x5)]) (h : k16 x1 x2 x3 x4 x5 σ = some (rr, τ)), W p l e { frames := 0, cells := 0, slots := 0, locals := 0 } s m args below meth c H locs 0 0 (MQ below (QI TM E rr τ) args s 0 0 E.2.2.1) (F0 m 16 ls [])) : ∀ (x1 : Int32) (x2 : Int32) (x3 : Int32) (x4 : Int32) (x5 : Int32) (s1 : Int32) (σ : Mem) (H : Heap) (locs : List Loc) (ls : Array Slot) (hw : Wd TM E σ s H locs) (hl : lv_has ls 10 [(0, .ref (E.2.1 (0))), (1, .int x1), (2, .int x2), (3, .int x3), (4, .int x4), (5, .int x5)]) (h : f_X12_together_253 k16 x1 x2 x3 x4 x5 s1 σ = some (rr, τ)), W p l e { frames := 0, cells := 0, slots := 0, locals := 0 } s m args below meth c H locs 0 0 (MQ below (QI TM E rr τ) args s 0 0 E.2.2.1) (F0 m 253 ls [.int s1, .ref (E.2.1 (4))]) := by
  obtain ⟨hx, hb, hml, hown, hts, hK, hSt, hlk, hr⟩ := id C
  intro x1 x2 x3 x4 x5 s1 σ H locs ls hw hl h
  unfold f_X12_together_253 at h
  refine lv_iconst (v := 1) hx hb dX12_together_253 (by decide) ?_
  refine lv_goto (tgt := 258) hx hb dX12_together_254 (by decide) ?_
  exact w_X12_together_258 C _ hk16 _ _ _ _ _ _ _ _ _ _ _ hw (lv_sub hl [0, 1, 2, 3, 4, 5] rfl) h
set_option maxHeartbeats 4000000 in
set_option maxRecDepth 100000 in
theorem w_X12_together_16 {p : Program} {l : Launch} {e : Env} {s : State} {m : MethodId} {args : Array Value} {below : List Frame} {meth : Method} {c : Code} {E : EV} {rr : Int32} {τ : Mem} (C : Cx E p s m args meth c cX12_together 10 (some .int) RX12) : ∀ (n : Nat) (x1 : Int32) (x2 : Int32) (x3 : Int32) (x4 : Int32) (x5 : Int32) (σ : Mem) (H : Heap) (locs : List Loc) (ls : Array Slot) (hw : Wd TM E σ s H locs) (hl : lv_has ls 10 [(0, .ref (E.2.1 (0))), (1, .int x1), (2, .int x2), (3, .int x3), (4, .int x4), (5, .int x5)]) (h : fx6 (f_X12_together_16) n x1 x2 x3 x4 x5 σ = some (rr, τ)), W p l e { frames := 0, cells := 0, slots := 0, locals := 0 } s m args below meth c H locs 0 0 (MQ below (QI TM E rr τ) args s 0 0 E.2.2.1) (F0 m 16 ls []) := by
  obtain ⟨hx, hb, hml, hown, hts, hK, hSt, hlk, hr⟩ := id C
  intro n
  induction n with
  | zero =>
    intro x1 x2 x3 x4 x5 σ H locs ls hw hl h
    have h : none = some (rr, τ) := h
    cases h
  | succ n hk16 =>
    intro x1 x2 x3 x4 x5 σ H locs ls hw hl h
    replace h : f_X12_together_16 (fx6 (f_X12_together_16) n) x1 x2 x3 x4 x5 σ = some (rr, τ) := h
    unfold f_X12_together_16 at h
    refine lv_iload hx hb dX12_together_16 (lv_at hl 5 rfl) ?_
    refine lv_sipush (v := 151) hx hb dX12_together_18 (by decide) ?_
    refine lv_sipush (v := 140) hx hb dX12_together_21 (by decide) ?_
    refine lv_iload_n hx hb dX12_together_24 rfl (lv_at hl 1 rfl) ?_
    refine lv_imul hx hb dX12_together_25 ?_
    refine lv_iadd hx hb dX12_together_26 ?_
    refine lv_aload_n hx hb dX12_together_27 rfl (lv_at hl 0 rfl) ?_
    refine gf_12_1 C hw tM_0 kw_1019 dX12_together_28 ?_
    refine lv_sipush (v := 146) hx hb dX12_together_31 (by decide) ?_
    refine lv_iload_n hx hb dX12_together_34 rfl (lv_at hl 1 rfl) ?_
    refine lv_iadd hx hb dX12_together_35 ?_
    obtain ⟨g_2, h⟩ := gd_at h
    refine q_iald C hw tM_1 g_2 dX12_together_36 ?_
    refine lv_iadd hx hb dX12_together_37 ?_
    refine lv_icmp_ge (tgt := 309) hx hb dX12_together_38 (by decide) (fun c_3 => ?_) (fun c_3 => ?_)
    · replace h := it_at h c_3
      refine lv_iload hx hb dX12_together_309 (lv_at hl 4 rfl) ?_
      obtain ⟨rfl, rfl⟩ := ret_at h
      exact q_iret C hw dX12_together_311
    · replace h := ie_at h c_3
      refine lv_aload_n hx hb dX12_together_41 rfl (lv_at hl 0 rfl) ?_
      refine gf_12_1 C hw tM_0 kw_1019 dX12_together_42 ?_
      refine lv_iload hx hb dX12_together_45 (lv_at hl 5 rfl) ?_
      obtain ⟨g_4, h⟩ := gd_at h
      refine q_iald C hw tM_1 g_4 dX12_together_47 ?_
      obtain ⟨x6_5, ex6_5, h⟩ := lt_at h
      refine q_top ex6_5 ?_
      refine lv_istore (lv' := [(6, .int x6_5), (0, .ref (E.2.1 (0))), (1, .int x1), (2, .int x2), (3, .int x3), (4, .int x4), (5, .int x5)]) hx hb dX12_together_48 hl (by decide) rfl (fun ls hl => ?_)
      refine lv_iload hx hb dX12_together_50 (lv_at hl 0 rfl) ?_
      refine lv_if_lt (tgt := 148) hx hb dX12_together_52 (by decide) (fun c_6 => ?_) (fun c_6 => ?_)
      · replace h := it_at h c_6
        refine lv_iload hx hb dX12_together_148 (lv_at hl 0 rfl) ?_
        refine lv_iconst (v := (-1)) hx hb dX12_together_150 (by decide) ?_
        refine lv_icmp_ne (tgt := 181) hx hb dX12_together_151 (by decide) (fun c_7 => ?_) (fun c_7 => ?_)
        · replace h := ie_at h c_7
          refine lv_iload hx hb dX12_together_181 (lv_at hl 0 rfl) ?_
          refine lv_bipush (v := (-10)) hx hb dX12_together_183 (by decide) ?_
          refine lv_icmp_le (tgt := 262) hx hb dX12_together_185 (by decide) (fun c_8 => ?_) (fun c_8 => ?_)
          · replace h := it_at h c_8
            refine lv_iconst (v := 0) hx hb dX12_together_262 (by decide) ?_
            refine lv_istore_n (lv' := [(3, .int (0 : Int32)), (6, .int x6_5), (0, .ref (E.2.1 (0))), (1, .int x1), (2, .int x2), (4, .int x4), (5, .int x5)]) hx hb dX12_together_263 rfl hl (by decide) rfl (fun ls hl => ?_)
            refine lv_bipush (v := (-10)) hx hb dX12_together_264 (by decide) ?_
            refine lv_iload hx hb dX12_together_266 (lv_at hl 1 rfl) ?_
            refine lv_isub hx hb dX12_together_268 ?_
            obtain ⟨x7_9, ex7_9, h⟩ := lt_at h
            refine q_top ex7_9 ?_
            refine lv_istore (lv' := [(7, .int x7_9), (3, .int (0 : Int32)), (6, .int x6_5), (0, .ref (E.2.1 (0))), (1, .int x1), (2, .int x2), (4, .int x4), (5, .int x5)]) hx hb dX12_together_269 hl (by decide) rfl (fun ls hl => ?_)
            refine lv_iload hx hb dX12_together_271 (lv_at hl 6 rfl) ?_
            refine lv_aload_n hx hb dX12_together_273 rfl (lv_at hl 3 rfl) ?_
            refine gf_12_10 C hw tM_0 kw_1028 dX12_together_274 ?_
            refine lv_iconst (v := 0) hx hb dX12_together_277 (by decide) ?_
            obtain ⟨g_10, h⟩ := gd_at h
            refine q_zald C hw tM_4 g_10 dX12_together_278 ?_
            refine lv_if_eq (tgt := 299) hx hb dX12_together_279 (by decide) (fun c_11 => ?_) (fun c_11 => ?_)
            · replace h := it_at h c_11
              exact w_X12_together_299 C _ hk16 _ _ _ _ _ _ _ _ _ hw (lv_sub hl [3, 4, 5, 1, 7] rfl) h
            · replace h := ie_at h c_11
              refine lv_iload hx hb dX12_together_282 (lv_at hl 0 rfl) ?_
              refine lv_bipush (v := 100) hx hb dX12_together_284 (by decide) ?_
              refine lv_idiv hx hb dX12_together_286 (by decide) ?_
              refine lv_iload_n hx hb dX12_together_287 rfl (lv_at hl 5 rfl) ?_
              refine lv_icmp_ne (tgt := 299) hx hb dX12_together_288 (by decide) (fun c_12 => ?_) (fun c_12 => ?_)
              · replace h := ie_at h c_12
                exact w_X12_together_299 C _ hk16 _ _ _ _ _ _ _ _ _ hw (lv_sub hl [3, 4, 5, 1, 7] rfl) h
              · replace h := it_at h c_12
                refine lv_iload hx hb dX12_together_291 (lv_at hl 0 rfl) ?_
                refine lv_bipush (v := 100) hx hb dX12_together_293 (by decide) ?_
                refine q_irem hx hb dX12_together_295 (by decide) ?_
                refine lv_goto (tgt := 300) hx hb dX12_together_296 (by decide) ?_
                exact w_X12_together_300 C _ hk16 _ _ _ _ _ _ _ _ _ _ hw (lv_sub hl [3, 4, 5, 1, 7] rfl) h
          · replace h := ie_at h c_8
            obtain ⟨x3_13, ex3_13, h⟩ := lt_at h
            refine lv_iinc (v := x3_13) (lv' := [(3, .int x3_13), (6, .int x6_5), (0, .ref (E.2.1 (0))), (1, .int x1), (2, .int x2), (4, .int x4), (5, .int x5)]) hx hb dX12_together_188 hl (k := 4) rfl (by rw [ex3_13]; rfl) (by decide) rfl (fun ls hl => ?_)
            refine lv_aload_n hx hb dX12_together_191 rfl (lv_at hl 2 rfl) ?_
            refine gf_12_10 C hw tM_0 kw_1028 dX12_together_192 ?_
            refine lv_iload_n hx hb dX12_together_195 rfl (lv_at hl 0 rfl) ?_
            refine lv_iconst (v := 1) hx hb dX12_together_196 (by decide) ?_
            refine lv_isub hx hb dX12_together_197 ?_
            refine lv_iload hx hb dX12_together_198 (lv_at hl 1 rfl) ?_
            refine lv_bipush (v := (-2)) hx hb dX12_together_200 (by decide) ?_
            refine lv_icmp_ne (tgt := 233) hx hb dX12_together_202 (by decide) (fun c_14 => ?_) (fun c_14 => ?_)
            · replace h := ie_at h c_14
              refine lv_aload_n hx hb dX12_together_233 rfl (lv_at hl 2 rfl) ?_
              refine gf_12_10 C hw tM_0 kw_1028 dX12_together_234 ?_
              refine lv_iload_n hx hb dX12_together_237 rfl (lv_at hl 0 rfl) ?_
              refine lv_iconst (v := 1) hx hb dX12_together_238 (by decide) ?_
              refine lv_isub hx hb dX12_together_239 ?_
              obtain ⟨g_15, h⟩ := gd_at h
              refine q_zald C hw tM_4 g_15 dX12_together_240 ?_
              refine lv_if_ne (tgt := 253) hx hb dX12_together_241 (by decide) (fun c_16 => ?_) (fun c_16 => ?_)
              · replace h := ie_at h c_16
                exact w_X12_together_253 C _ hk16 _ _ _ _ _ _ _ _ _ _ hw (lv_sub hl [2, 3, 4, 0, 5, 6] rfl) h
              · replace h := it_at h c_16
                refine lv_aload_n hx hb dX12_together_244 rfl (lv_at hl 2 rfl) ?_
                refine gf_12_10 C hw tM_0 kw_1028 dX12_together_245 ?_
                refine lv_iload_n hx hb dX12_together_248 rfl (lv_at hl 0 rfl) ?_
                obtain ⟨g_17, h⟩ := gd_at h
                refine q_zald C hw tM_4 g_17 dX12_together_249 ?_
                refine lv_if_eq (tgt := 257) hx hb dX12_together_250 (by decide) (fun c_18 => ?_) (fun c_18 => ?_)
                · replace h := it_at h c_18
                  refine lv_iconst (v := 0) hx hb dX12_together_257 (by decide) ?_
                  exact w_X12_together_258 C _ hk16 _ _ _ _ _ _ _ _ _ _ _ hw (lv_sub hl [2, 3, 4, 0, 5, 6] rfl) h
                · replace h := ie_at h c_18
                  exact w_X12_together_253 C _ hk16 _ _ _ _ _ _ _ _ _ _ hw (lv_sub hl [2, 3, 4, 0, 5, 6] rfl) h
            · replace h := it_at h c_14
              refine lv_aload_n hx hb dX12_together_205 rfl (lv_at hl 2 rfl) ?_
              refine gf_12_10 C hw tM_0 kw_1028 dX12_together_206 ?_
              refine lv_iload_n hx hb dX12_together_209 rfl (lv_at hl 0 rfl) ?_
              refine lv_iconst (v := 1) hx hb dX12_together_210 (by decide) ?_
              refine lv_isub hx hb dX12_together_211 ?_
              obtain ⟨g_19, h⟩ := gd_at h
              refine q_zald C hw tM_4 g_19 dX12_together_212 ?_
              refine lv_if_eq (tgt := 229) hx hb dX12_together_213 (by decide) (fun c_20 => ?_) (fun c_20 => ?_)
              · replace h := it_at h c_20
                exact w_X12_together_229 C _ hk16 _ _ _ _ _ _ _ _ _ _ hw (lv_sub hl [2, 3, 4, 0, 5, 6] rfl) h
              · replace h := ie_at h c_20
                refine lv_aload_n hx hb dX12_together_216 rfl (lv_at hl 2 rfl) ?_
                refine gf_12_10 C hw tM_0 kw_1028 dX12_together_217 ?_
                refine lv_iload_n hx hb dX12_together_220 rfl (lv_at hl 0 rfl) ?_
                obtain ⟨g_21, h⟩ := gd_at h
                refine q_zald C hw tM_4 g_21 dX12_together_221 ?_
                refine lv_if_eq (tgt := 229) hx hb dX12_together_222 (by decide) (fun c_22 => ?_) (fun c_22 => ?_)
                · replace h := it_at h c_22
                  exact w_X12_together_229 C _ hk16 _ _ _ _ _ _ _ _ _ _ hw (lv_sub hl [2, 3, 4, 0, 5, 6] rfl) h
                · replace h := ie_at h c_22
                  refine lv_iconst (v := 1) hx hb dX12_together_225 (by decide) ?_
                  refine lv_goto (tgt := 258) hx hb dX12_together_226 (by decide) ?_
                  exact w_X12_together_258 C _ hk16 _ _ _ _ _ _ _ _ _ _ _ hw (lv_sub hl [2, 3, 4, 0, 5, 6] rfl) h
        · replace h := it_at h c_7
          refine lv_aload_n hx hb dX12_together_154 rfl (lv_at hl 1 rfl) ?_
          refine gf_12_10 C hw tM_0 kw_1028 dX12_together_155 ?_
          refine lv_iload_n hx hb dX12_together_158 rfl (lv_at hl 4 rfl) ?_
          refine lv_iconst (v := 1) hx hb dX12_together_159 (by decide) ?_
          refine lv_isub hx hb dX12_together_160 ?_
          refine lv_aload_n hx hb dX12_together_161 rfl (lv_at hl 1 rfl) ?_
          refine gf_12_10 C hw tM_0 kw_1028 dX12_together_162 ?_
          refine lv_iload_n hx hb dX12_together_165 rfl (lv_at hl 4 rfl) ?_
          refine lv_iconst (v := 1) hx hb dX12_together_166 (by decide) ?_
          refine lv_isub hx hb dX12_together_167 ?_
          obtain ⟨g_23, h⟩ := gd_at h
          refine q_zald C hw tM_4 g_23 dX12_together_168 ?_
          refine lv_if_ne (tgt := 176) hx hb dX12_together_169 (by decide) (fun c_24 => ?_) (fun c_24 => ?_)
          · replace h := ie_at h c_24
            refine lv_iconst (v := 0) hx hb dX12_together_176 (by decide) ?_
            exact w_X12_together_177 C _ hk16 _ _ _ _ _ _ _ _ _ _ _ hw (lv_sub hl [1, 2, 3, 4, 5, 6] rfl) h
          · replace h := it_at h c_24
            refine lv_iconst (v := 1) hx hb dX12_together_172 (by decide) ?_
            refine lv_goto (tgt := 177) hx hb dX12_together_173 (by decide) ?_
            exact w_X12_together_177 C _ hk16 _ _ _ _ _ _ _ _ _ _ _ hw (lv_sub hl [1, 2, 3, 4, 5, 6] rfl) h
      · replace h := ie_at h c_6
        refine lv_aload_n hx hb dX12_together_55 rfl (lv_at hl 1 rfl) ?_
        refine gf_12_9 C hw tM_0 kw_1027 dX12_together_56 ?_
        refine lv_iload hx hb dX12_together_59 (lv_at hl 0 rfl) ?_
        refine lv_bipush (v := 8) hx hb dX12_together_61 (by decide) ?_
        refine q_irem hx hb dX12_together_63 (by decide) ?_
        obtain ⟨g_25, h⟩ := gd_at h
        refine q_iald C hw tM_3 g_25 dX12_together_64 ?_
        obtain ⟨x7_26, ex7_26, h⟩ := lt_at h
        refine q_top ex7_26 ?_
        refine lv_istore (lv' := [(7, .int x7_26), (6, .int x6_5), (0, .ref (E.2.1 (0))), (1, .int x1), (2, .int x2), (3, .int x3), (4, .int x4), (5, .int x5)]) hx hb dX12_together_65 hl (by decide) rfl (fun ls hl => ?_)
        refine lv_iload hx hb dX12_together_67 (lv_at hl 1 rfl) ?_
        refine lv_bipush (v := 8) hx hb dX12_together_69 (by decide) ?_
        refine lv_idiv hx hb dX12_together_71 (by decide) ?_
        refine lv_iconst (v := 4) hx hb dX12_together_72 (by decide) ?_
        refine q_irem hx hb dX12_together_73 (by decide) ?_
        obtain ⟨x8_27, ex8_27, h⟩ := lt_at h
        refine q_top ex8_27 ?_
        refine lv_istore (lv' := [(8, .int x8_27), (7, .int x7_26), (6, .int x6_5), (0, .ref (E.2.1 (0))), (1, .int x1), (2, .int x2), (3, .int x3), (4, .int x4), (5, .int x5)]) hx hb dX12_together_74 hl (by decide) rfl (fun ls hl => ?_)
        refine lv_iload hx hb dX12_together_76 (lv_at hl 2 rfl) ?_
        refine lv_bipush (v := 32) hx hb dX12_together_78 (by decide) ?_
        refine lv_idiv hx hb dX12_together_80 (by decide) ?_
        obtain ⟨x9_28, ex9_28, h⟩ := lt_at h
        refine q_top ex9_28 ?_
        refine lv_istore (lv' := [(9, .int x9_28), (8, .int x8_27), (7, .int x7_26), (6, .int x6_5), (0, .ref (E.2.1 (0))), (1, .int x1), (2, .int x2), (3, .int x3), (4, .int x4), (5, .int x5)]) hx hb dX12_together_81 hl (by decide) rfl (fun ls hl => ?_)
        refine lv_aload_n hx hb dX12_together_83 rfl (lv_at hl 4 rfl) ?_
        refine gf_12_10 C hw tM_0 kw_1028 dX12_together_84 ?_
        refine lv_iload_n hx hb dX12_together_87 rfl (lv_at hl 7 rfl) ?_
        refine lv_iload hx hb dX12_together_88 (lv_at hl 1 rfl) ?_
        refine lv_if_ne (tgt := 108) hx hb dX12_together_90 (by decide) (fun c_29 => ?_) (fun c_29 => ?_)
        · replace h := ie_at h c_29
          refine lv_iload hx hb dX12_together_108 (lv_at hl 1 rfl) ?_
          refine lv_iconst (v := 1) hx hb dX12_together_110 (by decide) ?_
          refine lv_icmp_ne (tgt := 129) hx hb dX12_together_111 (by decide) (fun c_30 => ?_) (fun c_30 => ?_)
          · replace h := ie_at h c_30
            refine lv_iload hx hb dX12_together_129 (lv_at hl 2 rfl) ?_
            refine lv_iload hx hb dX12_together_131 (lv_at hl 0 rfl) ?_
            refine lv_icmp_le (tgt := 140) hx hb dX12_together_133 (by decide) (fun c_31 => ?_) (fun c_31 => ?_)
            · replace h := it_at h c_31
              refine lv_iconst (v := 0) hx hb dX12_together_140 (by decide) ?_
              exact w_X12_together_141 C _ hk16 _ _ _ _ _ _ _ _ _ _ _ hw (lv_sub hl [4, 5, 6, 7, 8, 9] rfl) h
            · replace h := ie_at h c_31
              refine lv_iconst (v := 1) hx hb dX12_together_136 (by decide) ?_
              refine lv_goto (tgt := 141) hx hb dX12_together_137 (by decide) ?_
              exact w_X12_together_141 C _ hk16 _ _ _ _ _ _ _ _ _ _ _ hw (lv_sub hl [4, 5, 6, 7, 8, 9] rfl) h
          · replace h := it_at h c_30
            refine lv_iload hx hb dX12_together_114 (lv_at hl 2 rfl) ?_
            refine lv_iload hx hb dX12_together_116 (lv_at hl 0 rfl) ?_
            refine lv_icmp_ne (tgt := 125) hx hb dX12_together_118 (by decide) (fun c_32 => ?_) (fun c_32 => ?_)
            · replace h := ie_at h c_32
              refine lv_iconst (v := 0) hx hb dX12_together_125 (by decide) ?_
              refine lv_goto (tgt := 141) hx hb dX12_together_126 (by decide) ?_
              exact w_X12_together_141 C _ hk16 _ _ _ _ _ _ _ _ _ _ _ hw (lv_sub hl [4, 5, 6, 7, 8, 9] rfl) h
            · replace h := it_at h c_32
              refine lv_iconst (v := 1) hx hb dX12_together_121 (by decide) ?_
              refine lv_goto (tgt := 141) hx hb dX12_together_122 (by decide) ?_
              exact w_X12_together_141 C _ hk16 _ _ _ _ _ _ _ _ _ _ _ hw (lv_sub hl [4, 5, 6, 7, 8, 9] rfl) h
        · replace h := it_at h c_29
          refine lv_iload hx hb dX12_together_93 (lv_at hl 2 rfl) ?_
          refine lv_iload hx hb dX12_together_95 (lv_at hl 0 rfl) ?_
          refine lv_icmp_ge (tgt := 104) hx hb dX12_together_97 (by decide) (fun c_33 => ?_) (fun c_33 => ?_)
          · replace h := it_at h c_33
            refine lv_iconst (v := 0) hx hb dX12_together_104 (by decide) ?_
            refine lv_goto (tgt := 141) hx hb dX12_together_105 (by decide) ?_
            exact w_X12_together_141 C _ hk16 _ _ _ _ _ _ _ _ _ _ _ hw (lv_sub hl [4, 5, 6, 7, 8, 9] rfl) h
          · replace h := ie_at h c_33
            refine lv_iconst (v := 1) hx hb dX12_together_100 (by decide) ?_
            refine lv_goto (tgt := 141) hx hb dX12_together_101 (by decide) ?_
            exact w_X12_together_141 C _ hk16 _ _ _ _ _ _ _ _ _ _ _ hw (lv_sub hl [4, 5, 6, 7, 8, 9] rfl) h
set_option maxHeartbeats 4000000 in
set_option maxRecDepth 100000 in
theorem m_X12_together (l : Launch) (E : EV) (p1 : Int32) (p2 : Int32) (σ : Mem) (rr : Int32) (τ : Mem) (h : f_X12_together p1 p2 σ = some (rr, τ)) : MI TM l E yX12_together cX12_together 10 (some .int) 0 0 [.ref (E.2.1 (0)), .int p1, .int p2] σ rr τ := by
  refine mt_start RX12 (by decide +kernel) rfl (Nat.le_of_ble_eq_true rfl) (fun p e s m args below meth c ls C hw hl => ?_)
  replace hl : lv_has ls 10 [(0, .ref (E.2.1 (0))), (1, .int p1), (2, .int p2)] := hl
  obtain ⟨hx, hb, hml, hown, hts, hK, hSt, hlk, hr⟩ := id C
  unfold f_X12_together at h
  refine lv_iconst (v := 0) hx hb dX12_together_0 (by decide) ?_
  refine lv_istore_n (lv' := [(3, .int (0 : Int32)), (0, .ref (E.2.1 (0))), (1, .int p1), (2, .int p2)]) hx hb dX12_together_1 rfl hl (by decide) rfl (fun ls hl => ?_)
  refine lv_iconst (v := 0) hx hb dX12_together_2 (by decide) ?_
  refine lv_istore (lv' := [(4, .int (0 : Int32)), (3, .int (0 : Int32)), (0, .ref (E.2.1 (0))), (1, .int p1), (2, .int p2)]) hx hb dX12_together_3 hl (by decide) rfl (fun ls hl => ?_)
  refine lv_sipush (v := 151) hx hb dX12_together_5 (by decide) ?_
  refine lv_sipush (v := 140) hx hb dX12_together_8 (by decide) ?_
  refine lv_iload_n hx hb dX12_together_11 rfl (lv_at hl 3 rfl) ?_
  refine lv_imul hx hb dX12_together_12 ?_
  refine lv_iadd hx hb dX12_together_13 ?_
  obtain ⟨x5_1, ex5_1, h⟩ := lt_at h
  refine q_top ex5_1 ?_
  refine lv_istore (lv' := [(5, .int x5_1), (4, .int (0 : Int32)), (3, .int (0 : Int32)), (0, .ref (E.2.1 (0))), (1, .int p1), (2, .int p2)]) hx hb dX12_together_14 hl (by decide) rfl (fun ls hl => ?_)
  exact w_X12_together_16 C _ _ _ _ _ _ _ _ _ _ hw (lv_sub hl [3, 4, 5, 2, 1, 0] rfl) h
def f_X12_fast (p1 : Int32) (p2 : Int32) (p3 : Int32) (p4 : Int32) (p5 : Int32) (σ : Mem) : Option (Int32 × Mem) :=
  lt (sI σ 3 0 p2) fun σ_1 =>
  lt (sI σ_1 3 1 (p3 / (2 : Int32))) fun σ_2 =>
  lt (sI σ_2 3 2 (irm p3 (2 : Int32))) fun σ_3 =>
  lt (sI σ_3 3 3 p4) fun σ_4 =>
  lt (sI σ_4 3 4 p5) fun σ_5 =>
  lt (sI σ_5 3 5 (0 : Int32)) fun σ_6 =>
  bd (f_X12_together p1 (0 : Int32) σ_6) fun r_7 σ_8 =>
  if r_7 ≤ (99 : Int32) then
    (lt (sI σ_8 3 5 r_7) fun σ_11 =>
    some (gI σ_11 3 5, σ_11))
  else
    lt (sI σ_8 3 5 (99 : Int32)) fun σ_12 =>
    some (gI σ_12 3 5, σ_12)
set_option maxHeartbeats 4000000 in
set_option maxRecDepth 100000 in
theorem m_X12_fast (l : Launch) (E : EV) (p1 : Int32) (p2 : Int32) (p3 : Int32) (p4 : Int32) (p5 : Int32) (σ : Mem) (rr : Int32) (τ : Mem) (h : f_X12_fast p1 p2 p3 p4 p5 σ = some (rr, τ)) : MI TM l E yX12_fast cX12_fast 7 (some .int) 1 29 [.ref (E.2.1 (0)), .int p1, .int p2, .int p3, .int p4, .int p5] σ rr τ := by
  refine mt_start RX12 (by decide +kernel) rfl (Nat.le_of_ble_eq_true rfl) (fun p e s m args below meth c ls C hw hl => ?_)
  replace hl : lv_has ls 7 [(0, .ref (E.2.1 (0))), (1, .int p1), (2, .int p2), (3, .int p3), (4, .int p4), (5, .int p5)] := hl
  obtain ⟨hx, hb, hml, hown, hts, hK, hSt, hlk, hr⟩ := id C
  unfold f_X12_fast at h
  refine lv_aload_n hx hb dX12_fast_0 rfl (lv_at hl 0 rfl) ?_
  refine gf_12_9 C hw tM_0 kw_1027 dX12_fast_1 ?_
  refine lv_iconst (v := 0) hx hb dX12_fast_4 (by decide) ?_
  refine lv_iload_n hx hb dX12_fast_5 rfl (lv_at hl 2 rfl) ?_
  obtain ⟨σ_1, eσ_1, h⟩ := lt_at h
  refine q_iastk C hw tM_3 (k := 0) (by rfl) (by decide) (by decide) eσ_1 dX12_fast_6 (fun H locs hw => ?_)
  refine lv_aload_n hx hb dX12_fast_7 rfl (lv_at hl 0 rfl) ?_
  refine gf_12_9 C hw tM_0 kw_1027 dX12_fast_8 ?_
  refine lv_iconst (v := 1) hx hb dX12_fast_11 (by decide) ?_
  refine lv_iload_n hx hb dX12_fast_12 rfl (lv_at hl 3 rfl) ?_
  refine lv_iconst (v := 2) hx hb dX12_fast_13 (by decide) ?_
  refine lv_idiv hx hb dX12_fast_14 (by decide) ?_
  obtain ⟨σ_2, eσ_2, h⟩ := lt_at h
  refine q_iastk C hw tM_3 (k := 1) (by rfl) (by decide) (by decide) eσ_2 dX12_fast_15 (fun H locs hw => ?_)
  refine lv_aload_n hx hb dX12_fast_16 rfl (lv_at hl 0 rfl) ?_
  refine gf_12_9 C hw tM_0 kw_1027 dX12_fast_17 ?_
  refine lv_iconst (v := 2) hx hb dX12_fast_20 (by decide) ?_
  refine lv_iload_n hx hb dX12_fast_21 rfl (lv_at hl 3 rfl) ?_
  refine lv_iconst (v := 2) hx hb dX12_fast_22 (by decide) ?_
  refine q_irem hx hb dX12_fast_23 (by decide) ?_
  obtain ⟨σ_3, eσ_3, h⟩ := lt_at h
  refine q_iastk C hw tM_3 (k := 2) (by rfl) (by decide) (by decide) eσ_3 dX12_fast_24 (fun H locs hw => ?_)
  refine lv_aload_n hx hb dX12_fast_25 rfl (lv_at hl 0 rfl) ?_
  refine gf_12_9 C hw tM_0 kw_1027 dX12_fast_26 ?_
  refine lv_iconst (v := 3) hx hb dX12_fast_29 (by decide) ?_
  refine lv_iload hx hb dX12_fast_30 (lv_at hl 4 rfl) ?_
  obtain ⟨σ_4, eσ_4, h⟩ := lt_at h
  refine q_iastk C hw tM_3 (k := 3) (by rfl) (by decide) (by decide) eσ_4 dX12_fast_32 (fun H locs hw => ?_)
  refine lv_aload_n hx hb dX12_fast_33 rfl (lv_at hl 0 rfl) ?_
  refine gf_12_9 C hw tM_0 kw_1027 dX12_fast_34 ?_
  refine lv_iconst (v := 4) hx hb dX12_fast_37 (by decide) ?_
  refine lv_iload hx hb dX12_fast_38 (lv_at hl 5 rfl) ?_
  obtain ⟨σ_5, eσ_5, h⟩ := lt_at h
  refine q_iastk C hw tM_3 (k := 4) (by rfl) (by decide) (by decide) eσ_5 dX12_fast_40 (fun H locs hw => ?_)
  refine lv_aload_n hx hb dX12_fast_41 rfl (lv_at hl 0 rfl) ?_
  refine gf_12_9 C hw tM_0 kw_1027 dX12_fast_42 ?_
  refine lv_iconst (v := 5) hx hb dX12_fast_45 (by decide) ?_
  refine lv_iconst (v := 0) hx hb dX12_fast_46 (by decide) ?_
  obtain ⟨σ_6, eσ_6, h⟩ := lt_at h
  refine q_iastk C hw tM_3 (k := 5) (by rfl) (by decide) (by decide) eσ_6 dX12_fast_47 (fun H locs hw => ?_)
  refine lv_aload_n hx hb dX12_fast_48 rfl (lv_at hl 0 rfl) ?_
  refine lv_iload_n hx hb dX12_fast_49 rfl (lv_at hl 1 rfl) ?_
  refine lv_iconst (v := 0) hx hb dX12_fast_50 (by decide) ?_
  obtain ⟨r_7, σ_8, h_9, h⟩ := bd_at h
  refine q_afterI hw (q_runV C hw hl.1 (As := [.int p1, .int (0 : Int32)]) (rest := []) (m_X12_together l E p1 (0 : Int32) σ_6 r_7 σ_8 h_9) yq_X12_together tM_0 rfl rfl kw_1224 ⟨Nat.le_of_ble_eq_true rfl, Nat.le_of_ble_eq_true rfl⟩ rfl (Nat.le_of_ble_eq_true rfl) ⟨Nat.zero_le _, Nat.zero_le _⟩ dX12_fast_51) (fun H locs hw => ?_)
  refine lv_istore (lv' := [(6, .int r_7), (0, .ref (E.2.1 (0))), (1, .int p1), (2, .int p2), (3, .int p3), (4, .int p4), (5, .int p5)]) hx hb dX12_fast_54 hl (by decide) rfl (fun ls hl => ?_)
  refine lv_aload_n hx hb dX12_fast_56 rfl (lv_at hl 1 rfl) ?_
  refine gf_12_9 C hw tM_0 kw_1027 dX12_fast_57 ?_
  refine lv_iconst (v := 5) hx hb dX12_fast_60 (by decide) ?_
  refine lv_iload hx hb dX12_fast_61 (lv_at hl 0 rfl) ?_
  refine lv_bipush (v := 99) hx hb dX12_fast_63 (by decide) ?_
  refine lv_icmp_le (tgt := 73) hx hb dX12_fast_65 (by decide) (fun c_10 => ?_) (fun c_10 => ?_)
  · replace h := it_at h c_10
    refine lv_iload hx hb dX12_fast_73 (lv_at hl 0 rfl) ?_
    obtain ⟨σ_11, eσ_11, h⟩ := lt_at h
    refine q_iastk C hw tM_3 (k := 5) (by rfl) (by decide) (by decide) eσ_11 dX12_fast_75 (fun H locs hw => ?_)
    refine lv_aload_n hx hb dX12_fast_76 rfl (lv_at hl 1 rfl) ?_
    refine gf_12_9 C hw tM_0 kw_1027 dX12_fast_77 ?_
    refine lv_iconst (v := 5) hx hb dX12_fast_80 (by decide) ?_
    refine q_ialdk C hw tM_3 (k := 5) (by rfl) (by decide) (by decide) dX12_fast_81 ?_
    obtain ⟨rfl, rfl⟩ := ret_at h
    exact q_iret C hw dX12_fast_82
  · replace h := ie_at h c_10
    refine lv_bipush (v := 99) hx hb dX12_fast_68 (by decide) ?_
    refine lv_goto (tgt := 75) hx hb dX12_fast_70 (by decide) ?_
    obtain ⟨σ_12, eσ_12, h⟩ := lt_at h
    refine q_iastk C hw tM_3 (k := 5) (by rfl) (by decide) (by decide) eσ_12 dX12_fast_75 (fun H locs hw => ?_)
    refine lv_aload_n hx hb dX12_fast_76 rfl (lv_at hl 1 rfl) ?_
    refine gf_12_9 C hw tM_0 kw_1027 dX12_fast_77 ?_
    refine lv_iconst (v := 5) hx hb dX12_fast_80 (by decide) ?_
    refine q_ialdk C hw tM_3 (k := 5) (by rfl) (by decide) (by decide) dX12_fast_81 ?_
    obtain ⟨rfl, rfl⟩ := ret_at h
    exact q_iret C hw dX12_fast_82
def f_X12_held (p0 : Int32) (σ : Mem) : Option (Int32 × Mem) :=
  if 0 ≤ p0 then
    (if p0 ≤ (9 : Int32) then
      (some (p0, σ))
    else
      some ((9 : Int32), σ))
  else
    some ((0 : Int32), σ)
set_option maxHeartbeats 4000000 in
set_option maxRecDepth 100000 in
theorem m_X12_held (l : Launch) (E : EV) (p0 : Int32) (σ : Mem) (rr : Int32) (τ : Mem) (h : f_X12_held p0 σ = some (rr, τ)) : MI TM l E yX12_held cX12_held 1 (some .int) 0 0 [.int p0] σ rr τ := by
  refine mt_start RX12 (by decide +kernel) rfl (Nat.le_of_ble_eq_true rfl) (fun p e s m args below meth c ls C hw hl => ?_)
  replace hl : lv_has ls 1 [(0, .int p0)] := hl
  obtain ⟨hx, hb, hml, hown, hts, hK, hSt, hlk, hr⟩ := id C
  unfold f_X12_held at h
  refine lv_iload_n hx hb dX12_held_0 rfl (lv_at hl 0 rfl) ?_
  refine lv_if_ge (tgt := 8) hx hb dX12_held_1 (by decide) (fun c_1 => ?_) (fun c_1 => ?_)
  · replace h := it_at h c_1
    refine lv_iload_n hx hb dX12_held_8 rfl (lv_at hl 0 rfl) ?_
    refine lv_bipush (v := 9) hx hb dX12_held_9 (by decide) ?_
    refine lv_icmp_le (tgt := 19) hx hb dX12_held_11 (by decide) (fun c_2 => ?_) (fun c_2 => ?_)
    · replace h := it_at h c_2
      refine lv_iload_n hx hb dX12_held_19 rfl (lv_at hl 0 rfl) ?_
      obtain ⟨rfl, rfl⟩ := ret_at h
      exact q_iret C hw dX12_held_20
    · replace h := ie_at h c_2
      refine lv_bipush (v := 9) hx hb dX12_held_14 (by decide) ?_
      refine lv_goto (tgt := 20) hx hb dX12_held_16 (by decide) ?_
      obtain ⟨rfl, rfl⟩ := ret_at h
      exact q_iret C hw dX12_held_20
  · replace h := ie_at h c_1
    refine lv_iconst (v := 0) hx hb dX12_held_4 (by decide) ?_
    refine lv_goto (tgt := 20) hx hb dX12_held_5 (by decide) ?_
    obtain ⟨rfl, rfl⟩ := ret_at h
    exact q_iret C hw dX12_held_20
def f_X12_hourOf_136 (x1 : Int32) (x5 : Int32) (s1 : Int32) (σ : Mem) : Option Mem :=
  lt (sI σ 0 14 s1) fun σ_27 =>
  if (gI σ_27 0 11) = 0 then
    (bd (f_X12_together x1 (3 : Int32) σ_27) fun r_29 σ_30 =>
    bd (f_X12_held (x5 + r_29) σ_30) fun r_32 σ_33 =>
    lt (sI σ_33 0 15 r_32) fun σ_35 =>
    some σ_35)
  else
    lt (sI σ_27 0 15 x5) fun σ_36 =>
    some σ_36
def f_X12_hourOf_97 (x1 : Int32) (x4 : Int32) (x5 : Int32) (s1 : Int32) (σ : Mem) : Option Mem :=
  lt (sI σ 0 13 s1) fun σ_18 =>
  if (gI σ_18 0 11) = 0 then
    (bd (f_X12_together x1 (2 : Int32) σ_18) fun r_20 σ_21 =>
    gd (ib ((131 : Int32) + x1) 1055) <|
    bd (f_X12_held ((x4 + r_20) - (gI σ_21 1 ((131 : Int32) + x1).toNatClampNeg)) σ_21) fun r_24 σ_25 =>
    f_X12_hourOf_136 x1 x5 r_24 σ_25)
  else
    f_X12_hourOf_136 x1 x5 x4 σ_18
def f_X12_hourOf_65 (x1 : Int32) (x4 : Int32) (x5 : Int32) (s1 : Int32) (σ : Mem) : Option Mem :=
  gd (iz s1) <|
  lt (sI σ 0 12 s1) fun σ_11 =>
  if (gI σ_11 0 11) = 0 then
    (if (gI σ_11 0 12) = 0 then
      (bd (f_X12_together x1 (1 : Int32) σ_11) fun r_15 σ_16 =>
      f_X12_hourOf_97 x1 x4 x5 r_15 σ_16)
    else
      f_X12_hourOf_97 x1 x4 x5 (0 : Int32) σ_11)
  else
    f_X12_hourOf_97 x1 x4 x5 (-1 : Int32) σ_11
def f_X12_hourOf_64 (x1 : Int32) (x4 : Int32) (x5 : Int32) (σ : Mem) : Option Mem :=
  f_X12_hourOf_65 x1 x4 x5 (0 : Int32) σ
def f_X12_hourOf_34 (x1 : Int32) (x4 : Int32) (x5 : Int32) (s1 : Int32) (σ : Mem) : Option Mem :=
  gd (iz s1) <|
  lt (sI σ 0 11 s1) fun σ_6 =>
  if (gI σ_6 0 11) = 0 then
    (gd (ib ((141 : Int32) + x1) 1055) <|
    if x4 < (gI σ_6 1 ((141 : Int32) + x1).toNatClampNeg) then
      (f_X12_hourOf_64 x1 x4 x5 σ_6)
    else
      f_X12_hourOf_65 x1 x4 x5 (1 : Int32) σ_6)
  else
    f_X12_hourOf_64 x1 x4 x5 σ_6
def f_X12_hourOf (p1 : Int32) (p2 : Int32) (p3 : Int32) (p4 : Int32) (p5 : Int32) (σ : Mem) : Option Mem :=
  bd (f_X12_fast p1 p2 p3 p4 p5 σ) fun r_1 σ_2 =>
  gd (ib ((136 : Int32) + p1) 1055) <|
  if r_1 ≤ (gI σ_2 1 ((136 : Int32) + p1).toNatClampNeg) then
    (f_X12_hourOf_34 p1 p4 p5 (0 : Int32) σ_2)
  else
    f_X12_hourOf_34 p1 p4 p5 (1 : Int32) σ_2
set_option maxHeartbeats 4000000 in
set_option maxRecDepth 100000 in
theorem w_X12_hourOf_136 {p : Program} {l : Launch} {e : Env} {s : State} {m : MethodId} {args : Array Value} {below : List Frame} {meth : Method} {c : Code} {E : EV} {τ : Mem} (C : Cx E p s m args meth c cX12_hourOf 7 none RX12) : ∀ (x1 : Int32) (x5 : Int32) (s1 : Int32) (σ : Mem) (H : Heap) (locs : List Loc) (ls : Array Slot) (hw : Wd TM E σ s H locs) (hl : lv_has ls 7 [(0, .ref (E.2.1 (0))), (1, .int x1), (5, .int x5)]) (h : f_X12_hourOf_136 x1 x5 s1 σ = some τ), W p l e { frames := 2, cells := 0, slots := 0, locals := 55 } s m args below meth c H locs 0 0 (MQ below (QV TM E τ) args s 0 0 E.2.2.1) (F0 m 136 ls [.int s1, .ref (E.2.1 (0))]) := by
  obtain ⟨hx, hb, hml, hown, hts, hK, hSt, hlk, hr⟩ := id C
  intro x1 x5 s1 σ H locs ls hw hl h
  unfold f_X12_hourOf_136 at h
  obtain ⟨σ_27, eσ_27, h⟩ := lt_at h
  refine pf_12_14 C hw tM_0 kw_1032 eσ_27 dX12_hourOf_136 (fun H locs hw => ?_)
  refine lv_aload_n hx hb dX12_hourOf_139 rfl (lv_at hl 0 rfl) ?_
  refine lv_aload_n hx hb dX12_hourOf_140 rfl (lv_at hl 0 rfl) ?_
  refine gf_12_11 C hw tM_0 kw_1029 dX12_hourOf_141 ?_
  refine lv_if_eq (tgt := 152) hx hb dX12_hourOf_144 (by decide) (fun c_28 => ?_) (fun c_28 => ?_)
  · replace h := it_at h c_28
    refine lv_iload hx hb dX12_hourOf_152 (lv_at hl 2 rfl) ?_
    refine lv_aload_n hx hb dX12_hourOf_154 rfl (lv_at hl 0 rfl) ?_
    refine lv_iload_n hx hb dX12_hourOf_155 rfl (lv_at hl 1 rfl) ?_
    refine lv_iconst (v := 3) hx hb dX12_hourOf_156 (by decide) ?_
    obtain ⟨r_29, σ_30, h_31, h⟩ := bd_at h
    refine q_afterI hw (q_runV C hw hl.1 (As := [.int x1, .int (3 : Int32)]) (rest := [.int x5, .ref (E.2.1 (0))]) (m_X12_together l E x1 (3 : Int32) σ_27 r_29 σ_30 h_31) yq_X12_together tM_0 rfl rfl kw_1224 ⟨Nat.le_of_ble_eq_true rfl, Nat.le_of_ble_eq_true rfl⟩ rfl (Nat.le_of_ble_eq_true rfl) ⟨Nat.zero_le _, Nat.zero_le _⟩ dX12_hourOf_157) (fun H locs hw => ?_)
    refine lv_iadd hx hb dX12_hourOf_160 ?_
    obtain ⟨r_32, σ_33, h_34, h⟩ := bd_at h
    refine q_afterI hw (q_runS C hw hl.1 (As := [.int (x5 + r_29)]) (rest := [.ref (E.2.1 (0))]) (m_X12_held l E (x5 + r_29) σ_30 r_32 σ_33 h_34) yq_X12_held kw_1232 ⟨Nat.le_of_ble_eq_true rfl, Nat.le_of_ble_eq_true rfl⟩ rfl (Nat.le_of_ble_eq_true rfl) ⟨Nat.zero_le _, Nat.zero_le _⟩ dX12_hourOf_161) (fun H locs hw => ?_)
    obtain ⟨σ_35, eσ_35, h⟩ := lt_at h
    refine pf_12_15 C hw tM_0 kw_1033 eσ_35 dX12_hourOf_164 (fun H locs hw => ?_)
    cases h
    exact q_vret C hw dX12_hourOf_167
  · replace h := ie_at h c_28
    refine lv_iload hx hb dX12_hourOf_147 (lv_at hl 2 rfl) ?_
    refine lv_goto (tgt := 164) hx hb dX12_hourOf_149 (by decide) ?_
    obtain ⟨σ_36, eσ_36, h⟩ := lt_at h
    refine pf_12_15 C hw tM_0 kw_1033 eσ_36 dX12_hourOf_164 (fun H locs hw => ?_)
    cases h
    exact q_vret C hw dX12_hourOf_167
set_option maxHeartbeats 4000000 in
set_option maxRecDepth 100000 in
theorem w_X12_hourOf_97 {p : Program} {l : Launch} {e : Env} {s : State} {m : MethodId} {args : Array Value} {below : List Frame} {meth : Method} {c : Code} {E : EV} {τ : Mem} (C : Cx E p s m args meth c cX12_hourOf 7 none RX12) : ∀ (x1 : Int32) (x4 : Int32) (x5 : Int32) (s1 : Int32) (σ : Mem) (H : Heap) (locs : List Loc) (ls : Array Slot) (hw : Wd TM E σ s H locs) (hl : lv_has ls 7 [(0, .ref (E.2.1 (0))), (1, .int x1), (4, .int x4), (5, .int x5)]) (h : f_X12_hourOf_97 x1 x4 x5 s1 σ = some τ), W p l e { frames := 2, cells := 0, slots := 0, locals := 55 } s m args below meth c H locs 0 0 (MQ below (QV TM E τ) args s 0 0 E.2.2.1) (F0 m 97 ls [.int s1, .ref (E.2.1 (0))]) := by
  obtain ⟨hx, hb, hml, hown, hts, hK, hSt, hlk, hr⟩ := id C
  intro x1 x4 x5 s1 σ H locs ls hw hl h
  unfold f_X12_hourOf_97 at h
  obtain ⟨σ_18, eσ_18, h⟩ := lt_at h
  refine pf_12_13 C hw tM_0 kw_1031 eσ_18 dX12_hourOf_97 (fun H locs hw => ?_)
  refine lv_aload_n hx hb dX12_hourOf_100 rfl (lv_at hl 0 rfl) ?_
  refine lv_aload_n hx hb dX12_hourOf_101 rfl (lv_at hl 0 rfl) ?_
  refine gf_12_11 C hw tM_0 kw_1029 dX12_hourOf_102 ?_
  refine lv_if_eq (tgt := 113) hx hb dX12_hourOf_105 (by decide) (fun c_19 => ?_) (fun c_19 => ?_)
  · replace h := it_at h c_19
    refine lv_iload hx hb dX12_hourOf_113 (lv_at hl 2 rfl) ?_
    refine lv_aload_n hx hb dX12_hourOf_115 rfl (lv_at hl 0 rfl) ?_
    refine lv_iload_n hx hb dX12_hourOf_116 rfl (lv_at hl 1 rfl) ?_
    refine lv_iconst (v := 2) hx hb dX12_hourOf_117 (by decide) ?_
    obtain ⟨r_20, σ_21, h_22, h⟩ := bd_at h
    refine q_afterI hw (q_runV C hw hl.1 (As := [.int x1, .int (2 : Int32)]) (rest := [.int x4, .ref (E.2.1 (0))]) (m_X12_together l E x1 (2 : Int32) σ_18 r_20 σ_21 h_22) yq_X12_together tM_0 rfl rfl kw_1224 ⟨Nat.le_of_ble_eq_true rfl, Nat.le_of_ble_eq_true rfl⟩ rfl (Nat.le_of_ble_eq_true rfl) ⟨Nat.zero_le _, Nat.zero_le _⟩ dX12_hourOf_118) (fun H locs hw => ?_)
    refine lv_iadd hx hb dX12_hourOf_121 ?_
    refine lv_aload_n hx hb dX12_hourOf_122 rfl (lv_at hl 0 rfl) ?_
    refine gf_12_1 C hw tM_0 kw_1019 dX12_hourOf_123 ?_
    refine lv_sipush (v := 131) hx hb dX12_hourOf_126 (by decide) ?_
    refine lv_iload_n hx hb dX12_hourOf_129 rfl (lv_at hl 1 rfl) ?_
    refine lv_iadd hx hb dX12_hourOf_130 ?_
    obtain ⟨g_23, h⟩ := gd_at h
    refine q_iald C hw tM_1 g_23 dX12_hourOf_131 ?_
    refine lv_isub hx hb dX12_hourOf_132 ?_
    obtain ⟨r_24, σ_25, h_26, h⟩ := bd_at h
    refine q_afterI hw (q_runS C hw hl.1 (As := [.int ((x4 + r_20) - (gI σ_21 1 ((131 : Int32) + x1).toNatClampNeg))]) (rest := [.ref (E.2.1 (0))]) (m_X12_held l E ((x4 + r_20) - (gI σ_21 1 ((131 : Int32) + x1).toNatClampNeg)) σ_21 r_24 σ_25 h_26) yq_X12_held kw_1232 ⟨Nat.le_of_ble_eq_true rfl, Nat.le_of_ble_eq_true rfl⟩ rfl (Nat.le_of_ble_eq_true rfl) ⟨Nat.zero_le _, Nat.zero_le _⟩ dX12_hourOf_133) (fun H locs hw => ?_)
    exact w_X12_hourOf_136 C _ _ _ _ _ _ _ hw (lv_sub hl [0, 1, 3] rfl) h
  · replace h := ie_at h c_19
    refine lv_iload hx hb dX12_hourOf_108 (lv_at hl 2 rfl) ?_
    refine lv_goto (tgt := 136) hx hb dX12_hourOf_110 (by decide) ?_
    exact w_X12_hourOf_136 C _ _ _ _ _ _ _ hw (lv_sub hl [0, 1, 3] rfl) h
set_option maxHeartbeats 4000000 in
set_option maxRecDepth 100000 in
theorem w_X12_hourOf_65 {p : Program} {l : Launch} {e : Env} {s : State} {m : MethodId} {args : Array Value} {below : List Frame} {meth : Method} {c : Code} {E : EV} {τ : Mem} (C : Cx E p s m args meth c cX12_hourOf 7 none RX12) : ∀ (x1 : Int32) (x4 : Int32) (x5 : Int32) (s1 : Int32) (σ : Mem) (H : Heap) (locs : List Loc) (ls : Array Slot) (hw : Wd TM E σ s H locs) (hl : lv_has ls 7 [(0, .ref (E.2.1 (0))), (1, .int x1), (4, .int x4), (5, .int x5)]) (h : f_X12_hourOf_65 x1 x4 x5 s1 σ = some τ), W p l e { frames := 2, cells := 0, slots := 0, locals := 55 } s m args below meth c H locs 0 0 (MQ below (QV TM E τ) args s 0 0 E.2.2.1) (F0 m 65 ls [.int s1, .ref (E.2.1 (0))]) := by
  obtain ⟨hx, hb, hml, hown, hts, hK, hSt, hlk, hr⟩ := id C
  intro x1 x4 x5 s1 σ H locs ls hw hl h
  unfold f_X12_hourOf_65 at h
  obtain ⟨g_12, h⟩ := gd_at h
  obtain ⟨σ_11, eσ_11, h⟩ := lt_at h
  refine pf_12_12 C hw tM_0 kw_1030 g_12 eσ_11 dX12_hourOf_65 (fun H locs hw => ?_)
  refine lv_aload_n hx hb dX12_hourOf_68 rfl (lv_at hl 0 rfl) ?_
  refine lv_aload_n hx hb dX12_hourOf_69 rfl (lv_at hl 0 rfl) ?_
  refine gf_12_11 C hw tM_0 kw_1029 dX12_hourOf_70 ?_
  refine lv_if_eq (tgt := 80) hx hb dX12_hourOf_73 (by decide) (fun c_13 => ?_) (fun c_13 => ?_)
  · replace h := it_at h c_13
    refine lv_aload_n hx hb dX12_hourOf_80 rfl (lv_at hl 0 rfl) ?_
    refine gf_12_12 C hw tM_0 kw_1030 dX12_hourOf_81 ?_
    refine lv_if_eq (tgt := 91) hx hb dX12_hourOf_84 (by decide) (fun c_14 => ?_) (fun c_14 => ?_)
    · replace h := it_at h c_14
      refine lv_aload_n hx hb dX12_hourOf_91 rfl (lv_at hl 0 rfl) ?_
      refine lv_iload_n hx hb dX12_hourOf_92 rfl (lv_at hl 1 rfl) ?_
      refine lv_iconst (v := 1) hx hb dX12_hourOf_93 (by decide) ?_
      obtain ⟨r_15, σ_16, h_17, h⟩ := bd_at h
      refine q_afterI hw (q_runV C hw hl.1 (As := [.int x1, .int (1 : Int32)]) (rest := [.ref (E.2.1 (0))]) (m_X12_together l E x1 (1 : Int32) σ_11 r_15 σ_16 h_17) yq_X12_together tM_0 rfl rfl kw_1224 ⟨Nat.le_of_ble_eq_true rfl, Nat.le_of_ble_eq_true rfl⟩ rfl (Nat.le_of_ble_eq_true rfl) ⟨Nat.zero_le _, Nat.zero_le _⟩ dX12_hourOf_94) (fun H locs hw => ?_)
      exact w_X12_hourOf_97 C _ _ _ _ _ _ _ _ hw (lv_sub hl [0, 1, 2, 3] rfl) h
    · replace h := ie_at h c_14
      refine lv_iconst (v := 0) hx hb dX12_hourOf_87 (by decide) ?_
      refine lv_goto (tgt := 97) hx hb dX12_hourOf_88 (by decide) ?_
      exact w_X12_hourOf_97 C _ _ _ _ _ _ _ _ hw (lv_sub hl [0, 1, 2, 3] rfl) h
  · replace h := ie_at h c_13
    refine lv_iconst (v := (-1)) hx hb dX12_hourOf_76 (by decide) ?_
    refine lv_goto (tgt := 97) hx hb dX12_hourOf_77 (by decide) ?_
    exact w_X12_hourOf_97 C _ _ _ _ _ _ _ _ hw (lv_sub hl [0, 1, 2, 3] rfl) h
set_option maxHeartbeats 4000000 in
set_option maxRecDepth 100000 in
theorem w_X12_hourOf_64 {p : Program} {l : Launch} {e : Env} {s : State} {m : MethodId} {args : Array Value} {below : List Frame} {meth : Method} {c : Code} {E : EV} {τ : Mem} (C : Cx E p s m args meth c cX12_hourOf 7 none RX12) : ∀ (x1 : Int32) (x4 : Int32) (x5 : Int32) (σ : Mem) (H : Heap) (locs : List Loc) (ls : Array Slot) (hw : Wd TM E σ s H locs) (hl : lv_has ls 7 [(0, .ref (E.2.1 (0))), (1, .int x1), (4, .int x4), (5, .int x5)]) (h : f_X12_hourOf_64 x1 x4 x5 σ = some τ), W p l e { frames := 2, cells := 0, slots := 0, locals := 55 } s m args below meth c H locs 0 0 (MQ below (QV TM E τ) args s 0 0 E.2.2.1) (F0 m 64 ls [.ref (E.2.1 (0))]) := by
  obtain ⟨hx, hb, hml, hown, hts, hK, hSt, hlk, hr⟩ := id C
  intro x1 x4 x5 σ H locs ls hw hl h
  unfold f_X12_hourOf_64 at h
  refine lv_iconst (v := 0) hx hb dX12_hourOf_64 (by decide) ?_
  exact w_X12_hourOf_65 C _ _ _ _ _ _ _ _ hw (lv_sub hl [0, 1, 2, 3] rfl) h
set_option maxHeartbeats 4000000 in
set_option maxRecDepth 100000 in
theorem w_X12_hourOf_34 {p : Program} {l : Launch} {e : Env} {s : State} {m : MethodId} {args : Array Value} {below : List Frame} {meth : Method} {c : Code} {E : EV} {τ : Mem} (C : Cx E p s m args meth c cX12_hourOf 7 none RX12) : ∀ (x1 : Int32) (x4 : Int32) (x5 : Int32) (s1 : Int32) (σ : Mem) (H : Heap) (locs : List Loc) (ls : Array Slot) (hw : Wd TM E σ s H locs) (hl : lv_has ls 7 [(0, .ref (E.2.1 (0))), (1, .int x1), (4, .int x4), (5, .int x5)]) (h : f_X12_hourOf_34 x1 x4 x5 s1 σ = some τ), W p l e { frames := 2, cells := 0, slots := 0, locals := 55 } s m args below meth c H locs 0 0 (MQ below (QV TM E τ) args s 0 0 E.2.2.1) (F0 m 34 ls [.int s1, .ref (E.2.1 (0))]) := by
  obtain ⟨hx, hb, hml, hown, hts, hK, hSt, hlk, hr⟩ := id C
  intro x1 x4 x5 s1 σ H locs ls hw hl h
  unfold f_X12_hourOf_34 at h
  obtain ⟨g_7, h⟩ := gd_at h
  obtain ⟨σ_6, eσ_6, h⟩ := lt_at h
  refine pf_12_11 C hw tM_0 kw_1029 g_7 eσ_6 dX12_hourOf_34 (fun H locs hw => ?_)
  refine lv_aload_n hx hb dX12_hourOf_37 rfl (lv_at hl 0 rfl) ?_
  refine lv_aload_n hx hb dX12_hourOf_38 rfl (lv_at hl 0 rfl) ?_
  refine gf_12_11 C hw tM_0 kw_1029 dX12_hourOf_39 ?_
  refine lv_if_ne (tgt := 64) hx hb dX12_hourOf_42 (by decide) (fun c_8 => ?_) (fun c_8 => ?_)
  · replace h := ie_at h c_8
    exact w_X12_hourOf_64 C _ _ _ _ _ _ _ hw (lv_sub hl [0, 1, 2, 3] rfl) h
  · replace h := it_at h c_8
    refine lv_iload hx hb dX12_hourOf_45 (lv_at hl 2 rfl) ?_
    refine lv_aload_n hx hb dX12_hourOf_47 rfl (lv_at hl 0 rfl) ?_
    refine gf_12_1 C hw tM_0 kw_1019 dX12_hourOf_48 ?_
    refine lv_sipush (v := 141) hx hb dX12_hourOf_51 (by decide) ?_
    refine lv_iload_n hx hb dX12_hourOf_54 rfl (lv_at hl 1 rfl) ?_
    refine lv_iadd hx hb dX12_hourOf_55 ?_
    obtain ⟨g_9, h⟩ := gd_at h
    refine q_iald C hw tM_1 g_9 dX12_hourOf_56 ?_
    refine lv_icmp_lt (tgt := 64) hx hb dX12_hourOf_57 (by decide) (fun c_10 => ?_) (fun c_10 => ?_)
    · replace h := it_at h c_10
      exact w_X12_hourOf_64 C _ _ _ _ _ _ _ hw (lv_sub hl [0, 1, 2, 3] rfl) h
    · replace h := ie_at h c_10
      refine lv_iconst (v := 1) hx hb dX12_hourOf_60 (by decide) ?_
      refine lv_goto (tgt := 65) hx hb dX12_hourOf_61 (by decide) ?_
      exact w_X12_hourOf_65 C _ _ _ _ _ _ _ _ hw (lv_sub hl [0, 1, 2, 3] rfl) h
set_option maxHeartbeats 4000000 in
set_option maxRecDepth 100000 in
theorem m_X12_hourOf (l : Launch) (E : EV) (p1 : Int32) (p2 : Int32) (p3 : Int32) (p4 : Int32) (p5 : Int32) (σ : Mem) (τ : Mem) (h : f_X12_hourOf p1 p2 p3 p4 p5 σ = some τ) : MV TM l E yX12_hourOf cX12_hourOf 7 none 2 55 [.ref (E.2.1 (0)), .int p1, .int p2, .int p3, .int p4, .int p5] σ τ := by
  refine mt_start RX12 (by decide +kernel) rfl (Nat.le_of_ble_eq_true rfl) (fun p e s m args below meth c ls C hw hl => ?_)
  replace hl : lv_has ls 7 [(0, .ref (E.2.1 (0))), (1, .int p1), (2, .int p2), (3, .int p3), (4, .int p4), (5, .int p5)] := hl
  obtain ⟨hx, hb, hml, hown, hts, hK, hSt, hlk, hr⟩ := id C
  unfold f_X12_hourOf at h
  refine lv_aload_n hx hb dX12_hourOf_0 rfl (lv_at hl 0 rfl) ?_
  refine lv_iload_n hx hb dX12_hourOf_1 rfl (lv_at hl 1 rfl) ?_
  refine lv_iload_n hx hb dX12_hourOf_2 rfl (lv_at hl 2 rfl) ?_
  refine lv_iload_n hx hb dX12_hourOf_3 rfl (lv_at hl 3 rfl) ?_
  refine lv_iload hx hb dX12_hourOf_4 (lv_at hl 4 rfl) ?_
  refine lv_iload hx hb dX12_hourOf_6 (lv_at hl 5 rfl) ?_
  obtain ⟨r_1, σ_2, h_3, h⟩ := bd_at h
  refine q_afterI hw (q_runV C hw hl.1 (As := [.int p1, .int p2, .int p3, .int p4, .int p5]) (rest := []) (m_X12_fast l E p1 p2 p3 p4 p5 σ r_1 σ_2 h_3) yq_X12_fast tM_0 rfl rfl kw_1220 ⟨Nat.le_of_ble_eq_true rfl, Nat.le_of_ble_eq_true rfl⟩ rfl (Nat.le_of_ble_eq_true rfl) ⟨Nat.zero_le _, Nat.zero_le _⟩ dX12_hourOf_8) (fun H locs hw => ?_)
  refine lv_istore (lv' := [(6, .int r_1), (0, .ref (E.2.1 (0))), (1, .int p1), (2, .int p2), (3, .int p3), (4, .int p4), (5, .int p5)]) hx hb dX12_hourOf_11 hl (by decide) rfl (fun ls hl => ?_)
  refine lv_aload_n hx hb dX12_hourOf_13 rfl (lv_at hl 1 rfl) ?_
  refine lv_iload hx hb dX12_hourOf_14 (lv_at hl 0 rfl) ?_
  refine lv_aload_n hx hb dX12_hourOf_16 rfl (lv_at hl 1 rfl) ?_
  refine gf_12_1 C hw tM_0 kw_1019 dX12_hourOf_17 ?_
  refine lv_sipush (v := 136) hx hb dX12_hourOf_20 (by decide) ?_
  refine lv_iload_n hx hb dX12_hourOf_23 rfl (lv_at hl 2 rfl) ?_
  refine lv_iadd hx hb dX12_hourOf_24 ?_
  obtain ⟨g_4, h⟩ := gd_at h
  refine q_iald C hw tM_1 g_4 dX12_hourOf_25 ?_
  refine lv_icmp_le (tgt := 33) hx hb dX12_hourOf_26 (by decide) (fun c_5 => ?_) (fun c_5 => ?_)
  · replace h := it_at h c_5
    refine lv_iconst (v := 0) hx hb dX12_hourOf_33 (by decide) ?_
    exact w_X12_hourOf_34 C _ _ _ _ _ _ _ _ hw (lv_sub hl [1, 2, 5, 6] rfl) h
  · replace h := ie_at h c_5
    refine lv_iconst (v := 1) hx hb dX12_hourOf_29 (by decide) ?_
    refine lv_goto (tgt := 34) hx hb dX12_hourOf_30 (by decide) ?_
    exact w_X12_hourOf_34 C _ _ _ _ _ _ _ _ hw (lv_sub hl [1, 2, 5, 6] rfl) h
def f_X12_hour (p1 : Int32) (p2 : Int32) (p3 : Int32) (p4 : Int32) (p5 : Int32) (p6 : Int32) (σ : Mem) : Option (Int32 × Mem) :=
  bd (f_X12_isMill p1 σ) fun r_1 σ_2 =>
  if r_1 = 0 then
    (some ((-1 : Int32), σ_2))
  else
    bd (f_X12_isWind p2 σ_2) fun r_5 σ_6 =>
    if r_5 = 0 then
      (some ((-1 : Int32), σ_6))
    else
      bd (f_X12_in p6 (0 : Int32) (5 : Int32) σ_6) fun r_9 σ_10 =>
      if r_9 = 0 then
        (some ((-1 : Int32), σ_10))
      else
        bd (f_X12_in p3 (0 : Int32) (7 : Int32) σ_10) fun r_13 σ_14 =>
        if r_13 = 0 then
          (some ((-2 : Int32), σ_14))
        else
          bd (f_X12_in p4 (0 : Int32) (9 : Int32) σ_14) fun r_17 σ_18 =>
          if r_17 = 0 then
            (some ((-2 : Int32), σ_18))
          else
            bd (f_X12_in p5 (0 : Int32) (9 : Int32) σ_18) fun r_21 σ_22 =>
            if r_21 = 0 then
              (some ((-2 : Int32), σ_22))
            else
              if p6 = 0 then
                (bd (f_X12_fast p1 p2 p3 p4 p5 σ_22) fun r_35 σ_36 =>
                some (r_35, σ_36))
              else
                bv (f_X12_hourOf p1 p2 p3 p4 p5 σ_22) fun σ_27 =>
                if p6 = (1 : Int32) then
                  (some (gI σ_27 0 13, σ_27))
                else
                if p6 = (2 : Int32) then
                  (some (gI σ_27 0 14, σ_27))
                else
                if p6 = (3 : Int32) then
                  (some (gI σ_27 0 15, σ_27))
                else
                if p6 = (4 : Int32) then
                  (if (gI σ_27 0 12) = 0 then
                    (some ((0 : Int32), σ_27))
                  else
                    some ((1 : Int32), σ_27))
                else
                if (gI σ_27 0 11) = 0 then
                  (some ((0 : Int32), σ_27))
                else
                  some ((1 : Int32), σ_27)
set_option maxHeartbeats 4000000 in
set_option maxRecDepth 100000 in
theorem m_X12_hour (l : Launch) (E : EV) (p1 : Int32) (p2 : Int32) (p3 : Int32) (p4 : Int32) (p5 : Int32) (p6 : Int32) (σ : Mem) (rr : Int32) (τ : Mem) (h : f_X12_hour p1 p2 p3 p4 p5 p6 σ = some (rr, τ)) : MI TM l E yX12_hour cX12_hour 7 (some .int) 3 81 [.ref (E.2.1 (0)), .int p1, .int p2, .int p3, .int p4, .int p5, .int p6] σ rr τ := by
  refine mt_start RX12 (by decide +kernel) rfl (Nat.le_of_ble_eq_true rfl) (fun p e s m args below meth c ls C hw hl => ?_)
  replace hl : lv_has ls 7 [(0, .ref (E.2.1 (0))), (1, .int p1), (2, .int p2), (3, .int p3), (4, .int p4), (5, .int p5), (6, .int p6)] := hl
  obtain ⟨hx, hb, hml, hown, hts, hK, hSt, hlk, hr⟩ := id C
  unfold f_X12_hour at h
  refine lv_aload_n hx hb dX12_hour_0 rfl (lv_at hl 0 rfl) ?_
  refine lv_iload_n hx hb dX12_hour_1 rfl (lv_at hl 1 rfl) ?_
  obtain ⟨r_1, σ_2, h_3, h⟩ := bd_at h
  refine q_afterI hw (q_runV C hw hl.1 (As := [.int p1]) (rest := []) (m_X12_isMill l E p1 σ r_1 σ_2 h_3) yq_X12_isMill tM_0 rfl rfl kw_1213 ⟨Nat.le_of_ble_eq_true rfl, Nat.le_of_ble_eq_true rfl⟩ rfl (Nat.le_of_ble_eq_true rfl) ⟨Nat.zero_le _, Nat.zero_le _⟩ dX12_hour_2) (fun H locs hw => ?_)
  refine lv_if_eq (tgt := 25) hx hb dX12_hour_5 (by decide) (fun c_4 => ?_) (fun c_4 => ?_)
  · replace h := it_at h c_4
    refine lv_iconst (v := (-1)) hx hb dX12_hour_25 (by decide) ?_
    obtain ⟨rfl, rfl⟩ := ret_at h
    exact q_iret C hw dX12_hour_26
  · replace h := ie_at h c_4
    refine lv_iload_n hx hb dX12_hour_8 rfl (lv_at hl 2 rfl) ?_
    obtain ⟨r_5, σ_6, h_7, h⟩ := bd_at h
    refine q_afterI hw (q_runS C hw hl.1 (As := [.int p2]) (rest := []) (m_X12_isWind l E p2 σ_2 r_5 σ_6 h_7) yq_X12_isWind kw_1217 ⟨Nat.le_of_ble_eq_true rfl, Nat.le_of_ble_eq_true rfl⟩ rfl (Nat.le_of_ble_eq_true rfl) ⟨Nat.zero_le _, Nat.zero_le _⟩ dX12_hour_9) (fun H locs hw => ?_)
    refine lv_if_eq (tgt := 25) hx hb dX12_hour_12 (by decide) (fun c_8 => ?_) (fun c_8 => ?_)
    · replace h := it_at h c_8
      refine lv_iconst (v := (-1)) hx hb dX12_hour_25 (by decide) ?_
      obtain ⟨rfl, rfl⟩ := ret_at h
      exact q_iret C hw dX12_hour_26
    · replace h := ie_at h c_8
      refine lv_iload hx hb dX12_hour_15 (lv_at hl 6 rfl) ?_
      refine lv_iconst (v := 0) hx hb dX12_hour_17 (by decide) ?_
      refine lv_iconst (v := 5) hx hb dX12_hour_18 (by decide) ?_
      obtain ⟨r_9, σ_10, h_11, h⟩ := bd_at h
      refine q_afterI hw (q_runS C hw hl.1 (As := [.int p6, .int (0 : Int32), .int (5 : Int32)]) (rest := []) (m_X12_in l E p6 (0 : Int32) (5 : Int32) σ_6 r_9 σ_10 h_11) yq_X12_in kw_1142 ⟨Nat.le_of_ble_eq_true rfl, Nat.le_of_ble_eq_true rfl⟩ rfl (Nat.le_of_ble_eq_true rfl) ⟨Nat.zero_le _, Nat.zero_le _⟩ dX12_hour_19) (fun H locs hw => ?_)
      refine lv_if_ne (tgt := 27) hx hb dX12_hour_22 (by decide) (fun c_12 => ?_) (fun c_12 => ?_)
      · replace h := ie_at h c_12
        refine lv_iload_n hx hb dX12_hour_27 rfl (lv_at hl 3 rfl) ?_
        refine lv_iconst (v := 0) hx hb dX12_hour_28 (by decide) ?_
        refine lv_bipush (v := 7) hx hb dX12_hour_29 (by decide) ?_
        obtain ⟨r_13, σ_14, h_15, h⟩ := bd_at h
        refine q_afterI hw (q_runS C hw hl.1 (As := [.int p3, .int (0 : Int32), .int (7 : Int32)]) (rest := []) (m_X12_in l E p3 (0 : Int32) (7 : Int32) σ_10 r_13 σ_14 h_15) yq_X12_in kw_1142 ⟨Nat.le_of_ble_eq_true rfl, Nat.le_of_ble_eq_true rfl⟩ rfl (Nat.le_of_ble_eq_true rfl) ⟨Nat.zero_le _, Nat.zero_le _⟩ dX12_hour_31) (fun H locs hw => ?_)
        refine lv_if_eq (tgt := 59) hx hb dX12_hour_34 (by decide) (fun c_16 => ?_) (fun c_16 => ?_)
        · replace h := it_at h c_16
          refine lv_bipush (v := (-2)) hx hb dX12_hour_59 (by decide) ?_
          obtain ⟨rfl, rfl⟩ := ret_at h
          exact q_iret C hw dX12_hour_61
        · replace h := ie_at h c_16
          refine lv_iload hx hb dX12_hour_37 (lv_at hl 4 rfl) ?_
          refine lv_iconst (v := 0) hx hb dX12_hour_39 (by decide) ?_
          refine lv_bipush (v := 9) hx hb dX12_hour_40 (by decide) ?_
          obtain ⟨r_17, σ_18, h_19, h⟩ := bd_at h
          refine q_afterI hw (q_runS C hw hl.1 (As := [.int p4, .int (0 : Int32), .int (9 : Int32)]) (rest := []) (m_X12_in l E p4 (0 : Int32) (9 : Int32) σ_14 r_17 σ_18 h_19) yq_X12_in kw_1142 ⟨Nat.le_of_ble_eq_true rfl, Nat.le_of_ble_eq_true rfl⟩ rfl (Nat.le_of_ble_eq_true rfl) ⟨Nat.zero_le _, Nat.zero_le _⟩ dX12_hour_42) (fun H locs hw => ?_)
          refine lv_if_eq (tgt := 59) hx hb dX12_hour_45 (by decide) (fun c_20 => ?_) (fun c_20 => ?_)
          · replace h := it_at h c_20
            refine lv_bipush (v := (-2)) hx hb dX12_hour_59 (by decide) ?_
            obtain ⟨rfl, rfl⟩ := ret_at h
            exact q_iret C hw dX12_hour_61
          · replace h := ie_at h c_20
            refine lv_iload hx hb dX12_hour_48 (lv_at hl 5 rfl) ?_
            refine lv_iconst (v := 0) hx hb dX12_hour_50 (by decide) ?_
            refine lv_bipush (v := 9) hx hb dX12_hour_51 (by decide) ?_
            obtain ⟨r_21, σ_22, h_23, h⟩ := bd_at h
            refine q_afterI hw (q_runS C hw hl.1 (As := [.int p5, .int (0 : Int32), .int (9 : Int32)]) (rest := []) (m_X12_in l E p5 (0 : Int32) (9 : Int32) σ_18 r_21 σ_22 h_23) yq_X12_in kw_1142 ⟨Nat.le_of_ble_eq_true rfl, Nat.le_of_ble_eq_true rfl⟩ rfl (Nat.le_of_ble_eq_true rfl) ⟨Nat.zero_le _, Nat.zero_le _⟩ dX12_hour_53) (fun H locs hw => ?_)
            refine lv_if_ne (tgt := 62) hx hb dX12_hour_56 (by decide) (fun c_24 => ?_) (fun c_24 => ?_)
            · replace h := ie_at h c_24
              refine lv_iload hx hb dX12_hour_62 (lv_at hl 6 rfl) ?_
              refine lv_if_ne (tgt := 79) hx hb dX12_hour_64 (by decide) (fun c_25 => ?_) (fun c_25 => ?_)
              · replace h := ie_at h c_25
                refine lv_aload_n hx hb dX12_hour_79 rfl (lv_at hl 0 rfl) ?_
                refine lv_iload_n hx hb dX12_hour_80 rfl (lv_at hl 1 rfl) ?_
                refine lv_iload_n hx hb dX12_hour_81 rfl (lv_at hl 2 rfl) ?_
                refine lv_iload_n hx hb dX12_hour_82 rfl (lv_at hl 3 rfl) ?_
                refine lv_iload hx hb dX12_hour_83 (lv_at hl 4 rfl) ?_
                refine lv_iload hx hb dX12_hour_85 (lv_at hl 5 rfl) ?_
                obtain ⟨σ_27, h_28, h⟩ := bv_at h
                refine q_afterV hw (q_runV C hw hl.1 (As := [.int p1, .int p2, .int p3, .int p4, .int p5]) (rest := []) (m_X12_hourOf l E p1 p2 p3 p4 p5 σ_22 σ_27 h_28) yq_X12_hourOf tM_0 rfl rfl kw_1228 ⟨Nat.le_of_ble_eq_true rfl, Nat.le_of_ble_eq_true rfl⟩ rfl (Nat.le_of_ble_eq_true rfl) ⟨Nat.zero_le _, Nat.zero_le _⟩ dX12_hour_87) (fun H locs hw => ?_)
                refine lv_iload hx hb dX12_hour_90 (lv_at hl 6 rfl) ?_
                by_cases c_29 : p6 = (1 : Int32)
                · replace h := it_at h c_29
                  refine lv_tableIn (off := 32) (tgt := 124) hx hb dX12_hour_92 (by rw [c_29]; decide) (by rw [c_29]; decide) (by rw [c_29]; rfl) (by decide) ?_
                  refine lv_aload_n hx hb dX12_hour_124 rfl (lv_at hl 0 rfl) ?_
                  refine gf_12_13 C hw tM_0 kw_1031 dX12_hour_125 ?_
                  obtain ⟨rfl, rfl⟩ := ret_at h
                  exact q_iret C hw dX12_hour_128
                replace h := ie_at h c_29
                by_cases c_30 : p6 = (2 : Int32)
                · replace h := it_at h c_30
                  refine lv_tableIn (off := 37) (tgt := 129) hx hb dX12_hour_92 (by rw [c_30]; decide) (by rw [c_30]; decide) (by rw [c_30]; rfl) (by decide) ?_
                  refine lv_aload_n hx hb dX12_hour_129 rfl (lv_at hl 0 rfl) ?_
                  refine gf_12_14 C hw tM_0 kw_1032 dX12_hour_130 ?_
                  obtain ⟨rfl, rfl⟩ := ret_at h
                  exact q_iret C hw dX12_hour_133
                replace h := ie_at h c_30
                by_cases c_31 : p6 = (3 : Int32)
                · replace h := it_at h c_31
                  refine lv_tableIn (off := 42) (tgt := 134) hx hb dX12_hour_92 (by rw [c_31]; decide) (by rw [c_31]; decide) (by rw [c_31]; rfl) (by decide) ?_
                  refine lv_aload_n hx hb dX12_hour_134 rfl (lv_at hl 0 rfl) ?_
                  refine gf_12_15 C hw tM_0 kw_1033 dX12_hour_135 ?_
                  obtain ⟨rfl, rfl⟩ := ret_at h
                  exact q_iret C hw dX12_hour_138
                replace h := ie_at h c_31
                by_cases c_32 : p6 = (4 : Int32)
                · replace h := it_at h c_32
                  refine lv_tableIn (off := 47) (tgt := 139) hx hb dX12_hour_92 (by rw [c_32]; decide) (by rw [c_32]; decide) (by rw [c_32]; rfl) (by decide) ?_
                  refine lv_aload_n hx hb dX12_hour_139 rfl (lv_at hl 0 rfl) ?_
                  refine gf_12_12 C hw tM_0 kw_1030 dX12_hour_140 ?_
                  refine lv_if_eq (tgt := 150) hx hb dX12_hour_143 (by decide) (fun c_33 => ?_) (fun c_33 => ?_)
                  · replace h := it_at h c_33
                    refine lv_iconst (v := 0) hx hb dX12_hour_150 (by decide) ?_
                    obtain ⟨rfl, rfl⟩ := ret_at h
                    exact q_iret C hw dX12_hour_151
                  · replace h := ie_at h c_33
                    refine lv_iconst (v := 1) hx hb dX12_hour_146 (by decide) ?_
                    refine lv_goto (tgt := 151) hx hb dX12_hour_147 (by decide) ?_
                    obtain ⟨rfl, rfl⟩ := ret_at h
                    exact q_iret C hw dX12_hour_151
                replace h := ie_at h c_32
                refine lv_tableOut (tgt := 152) hx hb dX12_hour_92 (tsw_out (fun k h1 h2 => by
                  rcases (show k = 1 ∨ k = 2 ∨ k = 3 ∨ k = 4 by omega) with rfl | rfl | rfl | rfl
                  · exact c_29
                  · exact c_30
                  · exact c_31
                  · exact c_32)) (by decide) ?_
                refine lv_aload_n hx hb dX12_hour_152 rfl (lv_at hl 0 rfl) ?_
                refine gf_12_11 C hw tM_0 kw_1029 dX12_hour_153 ?_
                refine lv_if_eq (tgt := 163) hx hb dX12_hour_156 (by decide) (fun c_34 => ?_) (fun c_34 => ?_)
                · replace h := it_at h c_34
                  refine lv_iconst (v := 0) hx hb dX12_hour_163 (by decide) ?_
                  obtain ⟨rfl, rfl⟩ := ret_at h
                  exact q_iret C hw dX12_hour_164
                · replace h := ie_at h c_34
                  refine lv_iconst (v := 1) hx hb dX12_hour_159 (by decide) ?_
                  refine lv_goto (tgt := 164) hx hb dX12_hour_160 (by decide) ?_
                  obtain ⟨rfl, rfl⟩ := ret_at h
                  exact q_iret C hw dX12_hour_164
              · replace h := it_at h c_25
                refine lv_aload_n hx hb dX12_hour_67 rfl (lv_at hl 0 rfl) ?_
                refine lv_iload_n hx hb dX12_hour_68 rfl (lv_at hl 1 rfl) ?_
                refine lv_iload_n hx hb dX12_hour_69 rfl (lv_at hl 2 rfl) ?_
                refine lv_iload_n hx hb dX12_hour_70 rfl (lv_at hl 3 rfl) ?_
                refine lv_iload hx hb dX12_hour_71 (lv_at hl 4 rfl) ?_
                refine lv_iload hx hb dX12_hour_73 (lv_at hl 5 rfl) ?_
                obtain ⟨r_35, σ_36, h_37, h⟩ := bd_at h
                refine q_afterI hw (q_runV C hw hl.1 (As := [.int p1, .int p2, .int p3, .int p4, .int p5]) (rest := []) (m_X12_fast l E p1 p2 p3 p4 p5 σ_22 r_35 σ_36 h_37) yq_X12_fast tM_0 rfl rfl kw_1220 ⟨Nat.le_of_ble_eq_true rfl, Nat.le_of_ble_eq_true rfl⟩ rfl (Nat.le_of_ble_eq_true rfl) ⟨Nat.zero_le _, Nat.zero_le _⟩ dX12_hour_75) (fun H locs hw => ?_)
                obtain ⟨rfl, rfl⟩ := ret_at h
                exact q_iret C hw dX12_hour_78
            · replace h := it_at h c_24
              refine lv_bipush (v := (-2)) hx hb dX12_hour_59 (by decide) ?_
              obtain ⟨rfl, rfl⟩ := ret_at h
              exact q_iret C hw dX12_hour_61
      · replace h := it_at h c_12
        refine lv_iconst (v := (-1)) hx hb dX12_hour_25 (by decide) ?_
        obtain ⟨rfl, rfl⟩ := ret_at h
        exact q_iret C hw dX12_hour_26
def f_X12_isRule (p1 : Int32) (σ : Mem) : Option (Int32 × Mem) :=
  bd (f_X12_in p1 (0 : Int32) ((gI σ 1 1) - (1 : Int32)) σ) fun r_1 σ_2 =>
  gd (iz r_1) (some (r_1, σ_2))
set_option maxHeartbeats 4000000 in
set_option maxRecDepth 100000 in
theorem m_X12_isRule (l : Launch) (E : EV) (p1 : Int32) (σ : Mem) (rr : Int32) (τ : Mem) (h : f_X12_isRule p1 σ = some (rr, τ)) : MI TM l E yX12_isRule cX12_isRule 2 (some .boolean) 1 22 [.ref (E.2.1 (0)), .int p1] σ rr τ := by
  refine mt_start RX12 (by decide +kernel) rfl (Nat.le_of_ble_eq_true rfl) (fun p e s m args below meth c ls C hw hl => ?_)
  replace hl : lv_has ls 2 [(0, .ref (E.2.1 (0))), (1, .int p1)] := hl
  obtain ⟨hx, hb, hml, hown, hts, hK, hSt, hlk, hr⟩ := id C
  unfold f_X12_isRule at h
  refine lv_iload_n hx hb dX12_isRule_0 rfl (lv_at hl 1 rfl) ?_
  refine lv_iconst (v := 0) hx hb dX12_isRule_1 (by decide) ?_
  refine lv_aload_n hx hb dX12_isRule_2 rfl (lv_at hl 0 rfl) ?_
  refine gf_12_1 C hw tM_0 kw_1019 dX12_isRule_3 ?_
  refine lv_iconst (v := 1) hx hb dX12_isRule_6 (by decide) ?_
  refine q_ialdk C hw tM_1 (k := 1) (by rfl) (by decide) (by decide) dX12_isRule_7 ?_
  refine lv_iconst (v := 1) hx hb dX12_isRule_8 (by decide) ?_
  refine lv_isub hx hb dX12_isRule_9 ?_
  obtain ⟨r_1, σ_2, h_3, h⟩ := bd_at h
  refine q_afterI hw (q_runS C hw hl.1 (As := [.int p1, .int (0 : Int32), .int ((gI σ 1 1) - (1 : Int32))]) (rest := []) (m_X12_in l E p1 (0 : Int32) ((gI σ 1 1) - (1 : Int32)) σ r_1 σ_2 h_3) yq_X12_in kw_1142 ⟨Nat.le_of_ble_eq_true rfl, Nat.le_of_ble_eq_true rfl⟩ rfl (Nat.le_of_ble_eq_true rfl) ⟨Nat.zero_le _, Nat.zero_le _⟩ dX12_isRule_10) (fun H locs hw => ?_)
  obtain ⟨g_4, h⟩ := gd_at h
  obtain ⟨rfl, rfl⟩ := ret_at h
  exact q_zret C g_4 hw dX12_isRule_13
def f_X12_isLed (σ : Mem) : Option (Int32 × Mem) :=
  if (gI σ 1 5) = (-1 : Int32) then
    (some ((0 : Int32), σ))
  else
    some ((1 : Int32), σ)
set_option maxHeartbeats 4000000 in
set_option maxRecDepth 100000 in
theorem m_X12_isLed (l : Launch) (E : EV) (σ : Mem) (rr : Int32) (τ : Mem) (h : f_X12_isLed  σ = some (rr, τ)) : MI TM l E yX12_isLed cX12_isLed 1 (some .boolean) 0 0 [.ref (E.2.1 (0))] σ rr τ := by
  refine mt_start RX12 (by decide +kernel) rfl (Nat.le_of_ble_eq_true rfl) (fun p e s m args below meth c ls C hw hl => ?_)
  replace hl : lv_has ls 1 [(0, .ref (E.2.1 (0)))] := hl
  obtain ⟨hx, hb, hml, hown, hts, hK, hSt, hlk, hr⟩ := id C
  unfold f_X12_isLed at h
  refine lv_aload_n hx hb dX12_isLed_0 rfl (lv_at hl 0 rfl) ?_
  refine gf_12_1 C hw tM_0 kw_1019 dX12_isLed_1 ?_
  refine lv_iconst (v := 5) hx hb dX12_isLed_4 (by decide) ?_
  refine q_ialdk C hw tM_1 (k := 5) (by rfl) (by decide) (by decide) dX12_isLed_5 ?_
  refine lv_iconst (v := (-1)) hx hb dX12_isLed_6 (by decide) ?_
  refine lv_icmp_eq (tgt := 14) hx hb dX12_isLed_7 (by decide) (fun c_1 => ?_) (fun c_1 => ?_)
  · replace h := it_at h c_1
    refine lv_iconst (v := 0) hx hb dX12_isLed_14 (by decide) ?_
    obtain ⟨rfl, rfl⟩ := ret_at h
    exact q_zret C (by decide) hw dX12_isLed_15
  · replace h := ie_at h c_1
    refine lv_iconst (v := 1) hx hb dX12_isLed_10 (by decide) ?_
    refine lv_goto (tgt := 15) hx hb dX12_isLed_11 (by decide) ?_
    obtain ⟨rfl, rfl⟩ := ret_at h
    exact q_zret C (by decide) hw dX12_isLed_15
def f_X12_begins (σ : Mem) : Option Mem :=
  lt (sI σ 0 25 ((gI σ 0 25) + (1 : Int32))) fun σ_1 =>
  lt (sI σ_1 0 26 ((gI σ_1 0 26) + (1 : Int32))) fun σ_2 =>
  some σ_2
set_option maxHeartbeats 4000000 in
set_option maxRecDepth 100000 in
theorem m_X12_begins (l : Launch) (E : EV) (σ : Mem) (τ : Mem) (h : f_X12_begins  σ = some τ) : MV TM l E yX12_begins cX12_begins 1 none 0 0 [.ref (E.2.1 (0))] σ τ := by
  refine mt_start RX12 (by decide +kernel) rfl (Nat.le_of_ble_eq_true rfl) (fun p e s m args below meth c ls C hw hl => ?_)
  replace hl : lv_has ls 1 [(0, .ref (E.2.1 (0)))] := hl
  obtain ⟨hx, hb, hml, hown, hts, hK, hSt, hlk, hr⟩ := id C
  unfold f_X12_begins at h
  refine lv_aload_n hx hb dX12_begins_0 rfl (lv_at hl 0 rfl) ?_
  refine lv_dup hx hb dX12_begins_1 rfl ?_
  refine gf_12_25 C hw tM_0 kw_1043 dX12_begins_2 ?_
  refine lv_iconst (v := 1) hx hb dX12_begins_5 (by decide) ?_
  refine lv_iadd hx hb dX12_begins_6 ?_
  obtain ⟨σ_1, eσ_1, h⟩ := lt_at h
  refine pf_12_25 C hw tM_0 kw_1043 eσ_1 dX12_begins_7 (fun H locs hw => ?_)
  refine lv_aload_n hx hb dX12_begins_10 rfl (lv_at hl 0 rfl) ?_
  refine lv_dup hx hb dX12_begins_11 rfl ?_
  refine gf_12_26 C hw tM_0 kw_1044 dX12_begins_12 ?_
  refine lv_iconst (v := 1) hx hb dX12_begins_15 (by decide) ?_
  refine lv_iadd hx hb dX12_begins_16 ?_
  obtain ⟨σ_2, eσ_2, h⟩ := lt_at h
  refine pf_12_26 C hw tM_0 kw_1044 eσ_2 dX12_begins_17 (fun H locs hw => ?_)
  cases h
  exact q_vret C hw dX12_begins_20
def f_X12_hourPlace (p1 : Int32) (p2 : Int32) (p3 : Int32) (p4 : Int32) (σ : Mem) : Option (Int32 × Mem) :=
  lt (((((((8 : Int32) * p1) + p2) * (10 : Int32)) + p3) * (10 : Int32)) + p4) fun x5_1 =>
  gd (ib x5_1 4800) <|
  if (gI σ 5 x5_1.toNatClampNeg) = (gI σ 0 25) then
    (some (x5_1, σ))
  else
    bv (f_X12_hourOf (gI σ 1 5) p1 p2 p3 p4 σ) fun σ_5 =>
    gd (ib x5_1 4800) <|
    lt (sI σ_5 5 x5_1.toNatClampNeg (gI σ_5 0 25)) fun σ_7 =>
    gd (ib x5_1 4800) <|
    lt (sI σ_7 6 x5_1.toNatClampNeg (gI σ_7 0 13)) fun σ_9 =>
    gd (ib x5_1 4800) <|
    lt (sI σ_9 7 x5_1.toNatClampNeg (gI σ_9 0 14)) fun σ_11 =>
    gd (ib x5_1 4800) <|
    lt (sI σ_11 8 x5_1.toNatClampNeg (gI σ_11 0 15)) fun σ_13 =>
    gd (ib x5_1 4800) <|
    gd (iz (gI σ_13 0 12)) <|
    lt (sI σ_13 9 x5_1.toNatClampNeg (gI σ_13 0 12)) fun σ_15 =>
    some (x5_1, σ_15)
set_option maxHeartbeats 4000000 in
set_option maxRecDepth 100000 in
theorem m_X12_hourPlace (l : Launch) (E : EV) (p1 : Int32) (p2 : Int32) (p3 : Int32) (p4 : Int32) (σ : Mem) (rr : Int32) (τ : Mem) (h : f_X12_hourPlace p1 p2 p3 p4 σ = some (rr, τ)) : MI TM l E yX12_hourPlace cX12_hourPlace 6 (some .int) 3 81 [.ref (E.2.1 (0)), .int p1, .int p2, .int p3, .int p4] σ rr τ := by
  refine mt_start RX12 (by decide +kernel) rfl (Nat.le_of_ble_eq_true rfl) (fun p e s m args below meth c ls C hw hl => ?_)
  replace hl : lv_has ls 6 [(0, .ref (E.2.1 (0))), (1, .int p1), (2, .int p2), (3, .int p3), (4, .int p4)] := hl
  obtain ⟨hx, hb, hml, hown, hts, hK, hSt, hlk, hr⟩ := id C
  unfold f_X12_hourPlace at h
  refine lv_bipush (v := 8) hx hb dX12_hourPlace_0 (by decide) ?_
  refine lv_iload_n hx hb dX12_hourPlace_2 rfl (lv_at hl 1 rfl) ?_
  refine lv_imul hx hb dX12_hourPlace_3 ?_
  refine lv_iload_n hx hb dX12_hourPlace_4 rfl (lv_at hl 2 rfl) ?_
  refine lv_iadd hx hb dX12_hourPlace_5 ?_
  refine lv_bipush (v := 10) hx hb dX12_hourPlace_6 (by decide) ?_
  refine lv_imul hx hb dX12_hourPlace_8 ?_
  refine lv_iload_n hx hb dX12_hourPlace_9 rfl (lv_at hl 3 rfl) ?_
  refine lv_iadd hx hb dX12_hourPlace_10 ?_
  refine lv_bipush (v := 10) hx hb dX12_hourPlace_11 (by decide) ?_
  refine lv_imul hx hb dX12_hourPlace_13 ?_
  refine lv_iload hx hb dX12_hourPlace_14 (lv_at hl 4 rfl) ?_
  refine lv_iadd hx hb dX12_hourPlace_16 ?_
  obtain ⟨x5_1, ex5_1, h⟩ := lt_at h
  refine q_top ex5_1 ?_
  refine lv_istore (lv' := [(5, .int x5_1), (0, .ref (E.2.1 (0))), (1, .int p1), (2, .int p2), (3, .int p3), (4, .int p4)]) hx hb dX12_hourPlace_17 hl (by decide) rfl (fun ls hl => ?_)
  refine lv_aload_n hx hb dX12_hourPlace_19 rfl (lv_at hl 1 rfl) ?_
  refine gf_12_16 C hw tM_0 kw_1034 dX12_hourPlace_20 ?_
  refine lv_iload hx hb dX12_hourPlace_23 (lv_at hl 0 rfl) ?_
  obtain ⟨g_2, h⟩ := gd_at h
  refine q_iald C hw tM_5 g_2 dX12_hourPlace_25 ?_
  refine lv_aload_n hx hb dX12_hourPlace_26 rfl (lv_at hl 1 rfl) ?_
  refine gf_12_25 C hw tM_0 kw_1043 dX12_hourPlace_27 ?_
  refine lv_icmp_eq (tgt := 103) hx hb dX12_hourPlace_30 (by decide) (fun c_3 => ?_) (fun c_3 => ?_)
  · replace h := it_at h c_3
    refine lv_iload hx hb dX12_hourPlace_103 (lv_at hl 0 rfl) ?_
    obtain ⟨rfl, rfl⟩ := ret_at h
    exact q_iret C hw dX12_hourPlace_105
  · replace h := ie_at h c_3
    refine lv_aload_n hx hb dX12_hourPlace_33 rfl (lv_at hl 1 rfl) ?_
    refine lv_aload_n hx hb dX12_hourPlace_34 rfl (lv_at hl 1 rfl) ?_
    refine gf_12_1 C hw tM_0 kw_1019 dX12_hourPlace_35 ?_
    refine lv_iconst (v := 5) hx hb dX12_hourPlace_38 (by decide) ?_
    refine q_ialdk C hw tM_1 (k := 5) (by rfl) (by decide) (by decide) dX12_hourPlace_39 ?_
    refine lv_iload_n hx hb dX12_hourPlace_40 rfl (lv_at hl 2 rfl) ?_
    refine lv_iload_n hx hb dX12_hourPlace_41 rfl (lv_at hl 3 rfl) ?_
    refine lv_iload_n hx hb dX12_hourPlace_42 rfl (lv_at hl 4 rfl) ?_
    refine lv_iload hx hb dX12_hourPlace_43 (lv_at hl 5 rfl) ?_
    obtain ⟨σ_5, h_6, h⟩ := bv_at h
    refine q_afterV hw (q_runV C hw hl.1 (As := [.int (gI σ 1 5), .int p1, .int p2, .int p3, .int p4]) (rest := []) (m_X12_hourOf l E (gI σ 1 5) p1 p2 p3 p4 σ σ_5 h_6) yq_X12_hourOf tM_0 rfl rfl kw_1228 ⟨Nat.le_of_ble_eq_true rfl, Nat.le_of_ble_eq_true rfl⟩ rfl (Nat.le_of_ble_eq_true rfl) ⟨Nat.zero_le _, Nat.zero_le _⟩ dX12_hourPlace_45) (fun H locs hw => ?_)
    refine lv_aload_n hx hb dX12_hourPlace_48 rfl (lv_at hl 1 rfl) ?_
    refine gf_12_16 C hw tM_0 kw_1034 dX12_hourPlace_49 ?_
    refine lv_iload hx hb dX12_hourPlace_52 (lv_at hl 0 rfl) ?_
    refine lv_aload_n hx hb dX12_hourPlace_54 rfl (lv_at hl 1 rfl) ?_
    refine gf_12_25 C hw tM_0 kw_1043 dX12_hourPlace_55 ?_
    obtain ⟨g_8, h⟩ := gd_at h
    obtain ⟨σ_7, eσ_7, h⟩ := lt_at h
    refine q_iast C hw tM_5 g_8 eσ_7 dX12_hourPlace_58 (fun H locs hw => ?_)
    refine lv_aload_n hx hb dX12_hourPlace_59 rfl (lv_at hl 1 rfl) ?_
    refine gf_12_17 C hw tM_0 kw_1035 dX12_hourPlace_60 ?_
    refine lv_iload hx hb dX12_hourPlace_63 (lv_at hl 0 rfl) ?_
    refine lv_aload_n hx hb dX12_hourPlace_65 rfl (lv_at hl 1 rfl) ?_
    refine gf_12_13 C hw tM_0 kw_1031 dX12_hourPlace_66 ?_
    obtain ⟨g_10, h⟩ := gd_at h
    obtain ⟨σ_9, eσ_9, h⟩ := lt_at h
    refine q_iast C hw tM_6 g_10 eσ_9 dX12_hourPlace_69 (fun H locs hw => ?_)
    refine lv_aload_n hx hb dX12_hourPlace_70 rfl (lv_at hl 1 rfl) ?_
    refine gf_12_18 C hw tM_0 kw_1036 dX12_hourPlace_71 ?_
    refine lv_iload hx hb dX12_hourPlace_74 (lv_at hl 0 rfl) ?_
    refine lv_aload_n hx hb dX12_hourPlace_76 rfl (lv_at hl 1 rfl) ?_
    refine gf_12_14 C hw tM_0 kw_1032 dX12_hourPlace_77 ?_
    obtain ⟨g_12, h⟩ := gd_at h
    obtain ⟨σ_11, eσ_11, h⟩ := lt_at h
    refine q_iast C hw tM_7 g_12 eσ_11 dX12_hourPlace_80 (fun H locs hw => ?_)
    refine lv_aload_n hx hb dX12_hourPlace_81 rfl (lv_at hl 1 rfl) ?_
    refine gf_12_19 C hw tM_0 kw_1037 dX12_hourPlace_82 ?_
    refine lv_iload hx hb dX12_hourPlace_85 (lv_at hl 0 rfl) ?_
    refine lv_aload_n hx hb dX12_hourPlace_87 rfl (lv_at hl 1 rfl) ?_
    refine gf_12_15 C hw tM_0 kw_1033 dX12_hourPlace_88 ?_
    obtain ⟨g_14, h⟩ := gd_at h
    obtain ⟨σ_13, eσ_13, h⟩ := lt_at h
    refine q_iast C hw tM_8 g_14 eσ_13 dX12_hourPlace_91 (fun H locs hw => ?_)
    refine lv_aload_n hx hb dX12_hourPlace_92 rfl (lv_at hl 1 rfl) ?_
    refine gf_12_20 C hw tM_0 kw_1038 dX12_hourPlace_93 ?_
    refine lv_iload hx hb dX12_hourPlace_96 (lv_at hl 0 rfl) ?_
    refine lv_aload_n hx hb dX12_hourPlace_98 rfl (lv_at hl 1 rfl) ?_
    refine gf_12_12 C hw tM_0 kw_1030 dX12_hourPlace_99 ?_
    obtain ⟨g_16, h⟩ := gd_at h
    obtain ⟨g_17, h⟩ := gd_at h
    obtain ⟨σ_15, eσ_15, h⟩ := lt_at h
    refine q_zast C hw tM_9 g_16 g_17 eσ_15 dX12_hourPlace_102 (fun H locs hw => ?_)
    refine lv_iload hx hb dX12_hourPlace_103 (lv_at hl 0 rfl) ?_
    obtain ⟨rfl, rfl⟩ := ret_at h
    exact q_iret C hw dX12_hourPlace_105
def f_X12_watched_129 (k9 : Int32 → Int32 → Int32 → Int32 → Int32 → Int32 → Int32 → Mem → Option (Int32 × Mem)) (x1 : Int32) (x2 : Int32) (x3 : Int32) (x4 : Int32) (x5 : Int32) (x7 : Int32) (s0 : Int32) (σ : Mem) : Option (Int32 × Mem) :=
  lt (x7 + (1 : Int32)) fun x7_19 =>
  k9 x1 x2 x3 x4 x5 s0 x7_19 σ
def f_X12_watched_110 (k9 : Int32 → Int32 → Int32 → Int32 → Int32 → Int32 → Int32 → Mem → Option (Int32 × Mem)) (x1 : Int32) (x2 : Int32) (x3 : Int32) (x4 : Int32) (x6 : Int32) (x7 : Int32) (x8 : Int32) (x10 : Int32) (s0 : Int32) (σ : Mem) : Option (Int32 × Mem) :=
  if x10 = 0 then
    (f_X12_watched_129 k9 x1 x2 x3 x4 s0 x7 x6 σ)
  else
    gd (ib x8 4800) <|
    f_X12_watched_129 k9 x1 x2 x3 x4 s0 x7 (gI σ 6 x8.toNatClampNeg) σ
def f_X12_watched_96 (k9 : Int32 → Int32 → Int32 → Int32 → Int32 → Int32 → Int32 → Mem → Option (Int32 × Mem)) (x1 : Int32) (x2 : Int32) (x3 : Int32) (x4 : Int32) (x5 : Int32) (x6 : Int32) (x7 : Int32) (x8 : Int32) (s0 : Int32) (σ : Mem) : Option (Int32 × Mem) :=
  if s0 = 0 then
    (f_X12_watched_110 k9 x1 x2 x3 x4 x6 x7 x8 s0 x5 σ)
  else
    f_X12_watched_110 k9 x1 x2 x3 x4 x6 x7 x8 s0 x7 σ
def f_X12_watched_91 (k9 : Int32 → Int32 → Int32 → Int32 → Int32 → Int32 → Int32 → Mem → Option (Int32 × Mem)) (x1 : Int32) (x2 : Int32) (x3 : Int32) (x4 : Int32) (x5 : Int32) (x6 : Int32) (x7 : Int32) (x8 : Int32) (σ : Mem) : Option (Int32 × Mem) :=
  f_X12_watched_96 k9 x1 x2 x3 x4 x5 x6 x7 x8 (1 : Int32) σ
def f_X12_watched_95 (k9 : Int32 → Int32 → Int32 → Int32 → Int32 → Int32 → Int32 → Mem → Option (Int32 × Mem)) (x1 : Int32) (x2 : Int32) (x3 : Int32) (x4 : Int32) (x5 : Int32) (x6 : Int32) (x7 : Int32) (x8 : Int32) (σ : Mem) : Option (Int32 × Mem) :=
  f_X12_watched_96 k9 x1 x2 x3 x4 x5 x6 x7 x8 (0 : Int32) σ
def f_X12_watched_66 (k9 : Int32 → Int32 → Int32 → Int32 → Int32 → Int32 → Int32 → Mem → Option (Int32 × Mem)) (x1 : Int32) (x2 : Int32) (x3 : Int32) (x4 : Int32) (x5 : Int32) (x6 : Int32) (x7 : Int32) (x8 : Int32) (s0 : Int32) (σ : Mem) : Option (Int32 × Mem) :=
  if s0 = 0 then
    (f_X12_watched_95 k9 x1 x2 x3 x4 x5 x6 x7 x8 σ)
  else
    if x5 = (-1 : Int32) then
      (f_X12_watched_91 k9 x1 x2 x3 x4 x5 x6 x7 x8 σ)
    else
      gd (ib x8 4800) <|
      if (gI σ 6 x8.toNatClampNeg) ≤ x6 then
        (f_X12_watched_95 k9 x1 x2 x3 x4 x5 x6 x7 x8 σ)
      else
        f_X12_watched_91 k9 x1 x2 x3 x4 x5 x6 x7 x8 σ
def f_X12_watched_65 (k9 : Int32 → Int32 → Int32 → Int32 → Int32 → Int32 → Int32 → Mem → Option (Int32 × Mem)) (x1 : Int32) (x2 : Int32) (x3 : Int32) (x4 : Int32) (x5 : Int32) (x6 : Int32) (x7 : Int32) (x8 : Int32) (σ : Mem) : Option (Int32 × Mem) :=
  f_X12_watched_66 k9 x1 x2 x3 x4 x5 x6 x7 x8 (0 : Int32) σ
def f_X12_watched_41 (k9 : Int32 → Int32 → Int32 → Int32 → Int32 → Int32 → Int32 → Mem → Option (Int32 × Mem)) (x1 : Int32) (x2 : Int32) (x3 : Int32) (x4 : Int32) (x5 : Int32) (x6 : Int32) (x7 : Int32) (x8 : Int32) (σ : Mem) : Option (Int32 × Mem) :=
  gd (ib x8 4800) <|
  if (gI σ 6 x8.toNatClampNeg) < 0 then
    (f_X12_watched_65 k9 x1 x2 x3 x4 x5 x6 x7 x8 σ)
  else
    gd (ib x8 4800) <|
    if (gI σ 9 x8.toNatClampNeg) = 0 then
      (f_X12_watched_66 k9 x1 x2 x3 x4 x5 x6 x7 x8 (1 : Int32) σ)
    else
      f_X12_watched_65 k9 x1 x2 x3 x4 x5 x6 x7 x8 σ
def f_X12_watched_9 (k9 : Int32 → Int32 → Int32 → Int32 → Int32 → Int32 → Int32 → Mem → Option (Int32 × Mem)) (x1 : Int32) (x2 : Int32) (x3 : Int32) (x4 : Int32) (x5 : Int32) (x6 : Int32) (x7 : Int32) (σ : Mem) : Option (Int32 × Mem) :=
  if (8 : Int32) ≤ x7 then
    (if x5 = (-1 : Int32) then
      (some ((0 : Int32), σ))
    else
      some (x5, σ))
  else
    bd (f_X12_hourPlace x1 x7 x3 x4 σ) fun r_3 σ_4 =>
    if x2 = (-1 : Int32) then
      (f_X12_watched_41 k9 x1 x2 x3 x4 x5 x6 x7 r_3 σ_4)
    else
      if (irm x7 (2 : Int32)) = x2 then
        (f_X12_watched_41 k9 x1 x2 x3 x4 x5 x6 x7 r_3 σ_4)
      else
        f_X12_watched_65 k9 x1 x2 x3 x4 x5 x6 x7 r_3 σ_4
def f_X12_watched (p1 : Int32) (p2 : Int32) (p3 : Int32) (p4 : Int32) (σ : Mem) : Option (Int32 × Mem) :=
  fx8 (f_X12_watched_9) FU p1 p2 p3 p4 (-1 : Int32) (0 : Int32) (0 : Int32) σ
set_option maxHeartbeats 4000000 in
set_option maxRecDepth 100000 in
theorem w_X12_watched_129 {p : Program} {l : Launch} {e : Env} {s : State} {m : MethodId} {args : Array Value} {below : List Frame} {meth : Method} {c : Code} {E : EV} {rr : Int32} {τ : Mem} (C : Cx E p s m args meth c cX12_watched 11 (some .int) RX12) (k9 : Int32 → Int32 → Int32 → Int32 → Int32 → Int32 → Int32 → Mem → Option (Int32 × Mem)) (hk9 : ∀ (x1 : Int32) (x2 : Int32) (x3 : Int32) (x4 : Int32) (x5 : Int32) (x6 : Int32) (x7 : Int32) (σ : Mem) (H : Heap) (locs : List Loc) (ls : Array Slot) (hw : Wd TM E σ s H locs) (hl : lv_has ls 11 [(0, .ref (E.2.1 (0))), (1, .int x1), (2, .int x2), (3, .int x3), (4, .int x4), (5, .int x5), (6, .int x6), (7, .int x7)]) (h : k9 x1 x2 x3 x4 x5 x6 x7 σ = some (rr, τ)), W p l e { frames := 4, cells := 0, slots := 0, locals := 106 } s m args below meth c H locs 0 0 (MQ below (QI TM E rr τ) args s 0 0 E.2.2.1) (F0 m 9 ls [])) : ∀ (x1 : Int32) (x2 : Int32) (x3 : Int32) (x4 : Int32) (x5 : Int32) (x7 : Int32) (s0 : Int32) (σ : Mem) (H : Heap) (locs : List Loc) (ls : Array Slot) (hw : Wd TM E σ s H locs) (hl : lv_has ls 11 [(0, .ref (E.2.1 (0))), (1, .int x1), (2, .int x2), (3, .int x3), (4, .int x4), (5, .int x5), (7, .int x7)]) (h : f_X12_watched_129 k9 x1 x2 x3 x4 x5 x7 s0 σ = some (rr, τ)), W p l e { frames := 4, cells := 0, slots := 0, locals := 106 } s m args below meth c H locs 0 0 (MQ below (QI TM E rr τ) args s 0 0 E.2.2.1) (F0 m 129 ls [.int s0]) := by
  obtain ⟨hx, hb, hml, hown, hts, hK, hSt, hlk, hr⟩ := id C
  intro x1 x2 x3 x4 x5 x7 s0 σ H locs ls hw hl h
  unfold f_X12_watched_129 at h
  refine lv_istore (lv' := [(6, .int s0), (0, .ref (E.2.1 (0))), (1, .int x1), (2, .int x2), (3, .int x3), (4, .int x4), (5, .int x5), (7, .int x7)]) hx hb dX12_watched_129 hl (by decide) rfl (fun ls hl => ?_)
  obtain ⟨x7_19, ex7_19, h⟩ := lt_at h
  refine lv_iinc (v := x7_19) (lv' := [(7, .int x7_19), (6, .int s0), (0, .ref (E.2.1 (0))), (1, .int x1), (2, .int x2), (3, .int x3), (4, .int x4), (5, .int x5)]) hx hb dX12_watched_131 hl (k := 7) rfl (by rw [ex7_19]; rfl) (by decide) rfl (fun ls hl => ?_)
  refine lv_goto (tgt := 9) hx hb dX12_watched_134 (by decide) ?_
  exact hk9 _ _ _ _ _ _ _ _ _ _ _ hw (lv_sub hl [2, 3, 4, 5, 6, 7, 1, 0] rfl) h
set_option maxHeartbeats 4000000 in
set_option maxRecDepth 100000 in
theorem w_X12_watched_110 {p : Program} {l : Launch} {e : Env} {s : State} {m : MethodId} {args : Array Value} {below : List Frame} {meth : Method} {c : Code} {E : EV} {rr : Int32} {τ : Mem} (C : Cx E p s m args meth c cX12_watched 11 (some .int) RX12) (k9 : Int32 → Int32 → Int32 → Int32 → Int32 → Int32 → Int32 → Mem → Option (Int32 × Mem)) (hk9 : ∀ (x1 : Int32) (x2 : Int32) (x3 : Int32) (x4 : Int32) (x5 : Int32) (x6 : Int32) (x7 : Int32) (σ : Mem) (H : Heap) (locs : List Loc) (ls : Array Slot) (hw : Wd TM E σ s H locs) (hl : lv_has ls 11 [(0, .ref (E.2.1 (0))), (1, .int x1), (2, .int x2), (3, .int x3), (4, .int x4), (5, .int x5), (6, .int x6), (7, .int x7)]) (h : k9 x1 x2 x3 x4 x5 x6 x7 σ = some (rr, τ)), W p l e { frames := 4, cells := 0, slots := 0, locals := 106 } s m args below meth c H locs 0 0 (MQ below (QI TM E rr τ) args s 0 0 E.2.2.1) (F0 m 9 ls [])) : ∀ (x1 : Int32) (x2 : Int32) (x3 : Int32) (x4 : Int32) (x6 : Int32) (x7 : Int32) (x8 : Int32) (x10 : Int32) (s0 : Int32) (σ : Mem) (H : Heap) (locs : List Loc) (ls : Array Slot) (hw : Wd TM E σ s H locs) (hl : lv_has ls 11 [(0, .ref (E.2.1 (0))), (1, .int x1), (2, .int x2), (3, .int x3), (4, .int x4), (6, .int x6), (7, .int x7), (8, .int x8), (10, .int x10)]) (h : f_X12_watched_110 k9 x1 x2 x3 x4 x6 x7 x8 x10 s0 σ = some (rr, τ)), W p l e { frames := 4, cells := 0, slots := 0, locals := 106 } s m args below meth c H locs 0 0 (MQ below (QI TM E rr τ) args s 0 0 E.2.2.1) (F0 m 110 ls [.int s0]) := by
  obtain ⟨hx, hb, hml, hown, hts, hK, hSt, hlk, hr⟩ := id C
  intro x1 x2 x3 x4 x6 x7 x8 x10 s0 σ H locs ls hw hl h
  unfold f_X12_watched_110 at h
  refine lv_istore (lv' := [(5, .int s0), (0, .ref (E.2.1 (0))), (1, .int x1), (2, .int x2), (3, .int x3), (4, .int x4), (6, .int x6), (7, .int x7), (8, .int x8), (10, .int x10)]) hx hb dX12_watched_110 hl (by decide) rfl (fun ls hl => ?_)
  refine lv_iload hx hb dX12_watched_112 (lv_at hl 9 rfl) ?_
  refine lv_if_eq (tgt := 127) hx hb dX12_watched_114 (by decide) (fun c_17 => ?_) (fun c_17 => ?_)
  · replace h := it_at h c_17
    refine lv_iload hx hb dX12_watched_127 (lv_at hl 6 rfl) ?_
    exact w_X12_watched_129 C _ hk9 _ _ _ _ _ _ _ _ _ _ _ hw (lv_sub hl [1, 2, 3, 4, 5, 0, 7] rfl) h
  · replace h := ie_at h c_17
    refine lv_aload_n hx hb dX12_watched_117 rfl (lv_at hl 1 rfl) ?_
    refine gf_12_17 C hw tM_0 kw_1035 dX12_watched_118 ?_
    refine lv_iload hx hb dX12_watched_121 (lv_at hl 8 rfl) ?_
    obtain ⟨g_18, h⟩ := gd_at h
    refine q_iald C hw tM_6 g_18 dX12_watched_123 ?_
    refine lv_goto (tgt := 129) hx hb dX12_watched_124 (by decide) ?_
    exact w_X12_watched_129 C _ hk9 _ _ _ _ _ _ _ _ _ _ _ hw (lv_sub hl [1, 2, 3, 4, 5, 0, 7] rfl) h
set_option maxHeartbeats 4000000 in
set_option maxRecDepth 100000 in
theorem w_X12_watched_96 {p : Program} {l : Launch} {e : Env} {s : State} {m : MethodId} {args : Array Value} {below : List Frame} {meth : Method} {c : Code} {E : EV} {rr : Int32} {τ : Mem} (C : Cx E p s m args meth c cX12_watched 11 (some .int) RX12) (k9 : Int32 → Int32 → Int32 → Int32 → Int32 → Int32 → Int32 → Mem → Option (Int32 × Mem)) (hk9 : ∀ (x1 : Int32) (x2 : Int32) (x3 : Int32) (x4 : Int32) (x5 : Int32) (x6 : Int32) (x7 : Int32) (σ : Mem) (H : Heap) (locs : List Loc) (ls : Array Slot) (hw : Wd TM E σ s H locs) (hl : lv_has ls 11 [(0, .ref (E.2.1 (0))), (1, .int x1), (2, .int x2), (3, .int x3), (4, .int x4), (5, .int x5), (6, .int x6), (7, .int x7)]) (h : k9 x1 x2 x3 x4 x5 x6 x7 σ = some (rr, τ)), W p l e { frames := 4, cells := 0, slots := 0, locals := 106 } s m args below meth c H locs 0 0 (MQ below (QI TM E rr τ) args s 0 0 E.2.2.1) (F0 m 9 ls [])) : ∀ (x1 : Int32) (x2 : Int32) (x3 : Int32) (x4 : Int32) (x5 : Int32) (x6 : Int32) (x7 : Int32) (x8 : Int32) (s0 : Int32) (σ : Mem) (H : Heap) (locs : List Loc) (ls : Array Slot) (hw : Wd TM E σ s H locs) (hl : lv_has ls 11 [(0, .ref (E.2.1 (0))), (1, .int x1), (2, .int x2), (3, .int x3), (4, .int x4), (5, .int x5), (6, .int x6), (7, .int x7), (8, .int x8)]) (h : f_X12_watched_96 k9 x1 x2 x3 x4 x5 x6 x7 x8 s0 σ = some (rr, τ)), W p l e { frames := 4, cells := 0, slots := 0, locals := 106 } s m args below meth c H locs 0 0 (MQ below (QI TM E rr τ) args s 0 0 E.2.2.1) (F0 m 96 ls [.int s0]) := by
  obtain ⟨hx, hb, hml, hown, hts, hK, hSt, hlk, hr⟩ := id C
  intro x1 x2 x3 x4 x5 x6 x7 x8 s0 σ H locs ls hw hl h
  unfold f_X12_watched_96 at h
  refine lv_istore (lv' := [(10, .int s0), (0, .ref (E.2.1 (0))), (1, .int x1), (2, .int x2), (3, .int x3), (4, .int x4), (5, .int x5), (6, .int x6), (7, .int x7), (8, .int x8)]) hx hb dX12_watched_96 hl (by decide) rfl (fun ls hl => ?_)
  refine lv_iload hx hb dX12_watched_98 (lv_at hl 0 rfl) ?_
  refine lv_if_eq (tgt := 108) hx hb dX12_watched_100 (by decide) (fun c_16 => ?_) (fun c_16 => ?_)
  · replace h := it_at h c_16
    refine lv_iload hx hb dX12_watched_108 (lv_at hl 6 rfl) ?_
    exact w_X12_watched_110 C _ hk9 _ _ _ _ _ _ _ _ _ _ _ _ _ hw (lv_sub hl [1, 2, 3, 4, 5, 7, 8, 9, 0] rfl) h
  · replace h := ie_at h c_16
    refine lv_iload hx hb dX12_watched_103 (lv_at hl 8 rfl) ?_
    refine lv_goto (tgt := 110) hx hb dX12_watched_105 (by decide) ?_
    exact w_X12_watched_110 C _ hk9 _ _ _ _ _ _ _ _ _ _ _ _ _ hw (lv_sub hl [1, 2, 3, 4, 5, 7, 8, 9, 0] rfl) h
set_option maxHeartbeats 4000000 in
set_option maxRecDepth 100000 in
theorem w_X12_watched_91 {p : Program} {l : Launch} {e : Env} {s : State} {m : MethodId} {args : Array Value} {below : List Frame} {meth : Method} {c : Code} {E : EV} {rr : Int32} {τ : Mem} (C : Cx E p s m args meth c cX12_watched 11 (some .int) RX12) (k9 : Int32 → Int32 → Int32 → Int32 → Int32 → Int32 → Int32 → Mem → Option (Int32 × Mem)) (hk9 : ∀ (x1 : Int32) (x2 : Int32) (x3 : Int32) (x4 : Int32) (x5 : Int32) (x6 : Int32) (x7 : Int32) (σ : Mem) (H : Heap) (locs : List Loc) (ls : Array Slot) (hw : Wd TM E σ s H locs) (hl : lv_has ls 11 [(0, .ref (E.2.1 (0))), (1, .int x1), (2, .int x2), (3, .int x3), (4, .int x4), (5, .int x5), (6, .int x6), (7, .int x7)]) (h : k9 x1 x2 x3 x4 x5 x6 x7 σ = some (rr, τ)), W p l e { frames := 4, cells := 0, slots := 0, locals := 106 } s m args below meth c H locs 0 0 (MQ below (QI TM E rr τ) args s 0 0 E.2.2.1) (F0 m 9 ls [])) : ∀ (x1 : Int32) (x2 : Int32) (x3 : Int32) (x4 : Int32) (x5 : Int32) (x6 : Int32) (x7 : Int32) (x8 : Int32) (σ : Mem) (H : Heap) (locs : List Loc) (ls : Array Slot) (hw : Wd TM E σ s H locs) (hl : lv_has ls 11 [(0, .ref (E.2.1 (0))), (1, .int x1), (2, .int x2), (3, .int x3), (4, .int x4), (5, .int x5), (6, .int x6), (7, .int x7), (8, .int x8)]) (h : f_X12_watched_91 k9 x1 x2 x3 x4 x5 x6 x7 x8 σ = some (rr, τ)), W p l e { frames := 4, cells := 0, slots := 0, locals := 106 } s m args below meth c H locs 0 0 (MQ below (QI TM E rr τ) args s 0 0 E.2.2.1) (F0 m 91 ls []) := by
  obtain ⟨hx, hb, hml, hown, hts, hK, hSt, hlk, hr⟩ := id C
  intro x1 x2 x3 x4 x5 x6 x7 x8 σ H locs ls hw hl h
  unfold f_X12_watched_91 at h
  refine lv_iconst (v := 1) hx hb dX12_watched_91 (by decide) ?_
  refine lv_goto (tgt := 96) hx hb dX12_watched_92 (by decide) ?_
  exact w_X12_watched_96 C _ hk9 _ _ _ _ _ _ _ _ _ _ _ _ _ hw (lv_sub hl [0, 1, 2, 3, 4, 5, 6, 7, 8] rfl) h
set_option maxHeartbeats 4000000 in
set_option maxRecDepth 100000 in
theorem w_X12_watched_95 {p : Program} {l : Launch} {e : Env} {s : State} {m : MethodId} {args : Array Value} {below : List Frame} {meth : Method} {c : Code} {E : EV} {rr : Int32} {τ : Mem} (C : Cx E p s m args meth c cX12_watched 11 (some .int) RX12) (k9 : Int32 → Int32 → Int32 → Int32 → Int32 → Int32 → Int32 → Mem → Option (Int32 × Mem)) (hk9 : ∀ (x1 : Int32) (x2 : Int32) (x3 : Int32) (x4 : Int32) (x5 : Int32) (x6 : Int32) (x7 : Int32) (σ : Mem) (H : Heap) (locs : List Loc) (ls : Array Slot) (hw : Wd TM E σ s H locs) (hl : lv_has ls 11 [(0, .ref (E.2.1 (0))), (1, .int x1), (2, .int x2), (3, .int x3), (4, .int x4), (5, .int x5), (6, .int x6), (7, .int x7)]) (h : k9 x1 x2 x3 x4 x5 x6 x7 σ = some (rr, τ)), W p l e { frames := 4, cells := 0, slots := 0, locals := 106 } s m args below meth c H locs 0 0 (MQ below (QI TM E rr τ) args s 0 0 E.2.2.1) (F0 m 9 ls [])) : ∀ (x1 : Int32) (x2 : Int32) (x3 : Int32) (x4 : Int32) (x5 : Int32) (x6 : Int32) (x7 : Int32) (x8 : Int32) (σ : Mem) (H : Heap) (locs : List Loc) (ls : Array Slot) (hw : Wd TM E σ s H locs) (hl : lv_has ls 11 [(0, .ref (E.2.1 (0))), (1, .int x1), (2, .int x2), (3, .int x3), (4, .int x4), (5, .int x5), (6, .int x6), (7, .int x7), (8, .int x8)]) (h : f_X12_watched_95 k9 x1 x2 x3 x4 x5 x6 x7 x8 σ = some (rr, τ)), W p l e { frames := 4, cells := 0, slots := 0, locals := 106 } s m args below meth c H locs 0 0 (MQ below (QI TM E rr τ) args s 0 0 E.2.2.1) (F0 m 95 ls []) := by
  obtain ⟨hx, hb, hml, hown, hts, hK, hSt, hlk, hr⟩ := id C
  intro x1 x2 x3 x4 x5 x6 x7 x8 σ H locs ls hw hl h
  unfold f_X12_watched_95 at h
  refine lv_iconst (v := 0) hx hb dX12_watched_95 (by decide) ?_
  exact w_X12_watched_96 C _ hk9 _ _ _ _ _ _ _ _ _ _ _ _ _ hw (lv_sub hl [0, 1, 2, 3, 4, 5, 6, 7, 8] rfl) h
set_option maxHeartbeats 4000000 in
set_option maxRecDepth 100000 in
theorem w_X12_watched_66 {p : Program} {l : Launch} {e : Env} {s : State} {m : MethodId} {args : Array Value} {below : List Frame} {meth : Method} {c : Code} {E : EV} {rr : Int32} {τ : Mem} (C : Cx E p s m args meth c cX12_watched 11 (some .int) RX12) (k9 : Int32 → Int32 → Int32 → Int32 → Int32 → Int32 → Int32 → Mem → Option (Int32 × Mem)) (hk9 : ∀ (x1 : Int32) (x2 : Int32) (x3 : Int32) (x4 : Int32) (x5 : Int32) (x6 : Int32) (x7 : Int32) (σ : Mem) (H : Heap) (locs : List Loc) (ls : Array Slot) (hw : Wd TM E σ s H locs) (hl : lv_has ls 11 [(0, .ref (E.2.1 (0))), (1, .int x1), (2, .int x2), (3, .int x3), (4, .int x4), (5, .int x5), (6, .int x6), (7, .int x7)]) (h : k9 x1 x2 x3 x4 x5 x6 x7 σ = some (rr, τ)), W p l e { frames := 4, cells := 0, slots := 0, locals := 106 } s m args below meth c H locs 0 0 (MQ below (QI TM E rr τ) args s 0 0 E.2.2.1) (F0 m 9 ls [])) : ∀ (x1 : Int32) (x2 : Int32) (x3 : Int32) (x4 : Int32) (x5 : Int32) (x6 : Int32) (x7 : Int32) (x8 : Int32) (s0 : Int32) (σ : Mem) (H : Heap) (locs : List Loc) (ls : Array Slot) (hw : Wd TM E σ s H locs) (hl : lv_has ls 11 [(0, .ref (E.2.1 (0))), (1, .int x1), (2, .int x2), (3, .int x3), (4, .int x4), (5, .int x5), (6, .int x6), (7, .int x7), (8, .int x8)]) (h : f_X12_watched_66 k9 x1 x2 x3 x4 x5 x6 x7 x8 s0 σ = some (rr, τ)), W p l e { frames := 4, cells := 0, slots := 0, locals := 106 } s m args below meth c H locs 0 0 (MQ below (QI TM E rr τ) args s 0 0 E.2.2.1) (F0 m 66 ls [.int s0]) := by
  obtain ⟨hx, hb, hml, hown, hts, hK, hSt, hlk, hr⟩ := id C
  intro x1 x2 x3 x4 x5 x6 x7 x8 s0 σ H locs ls hw hl h
  unfold f_X12_watched_66 at h
  refine lv_istore (lv' := [(9, .int s0), (0, .ref (E.2.1 (0))), (1, .int x1), (2, .int x2), (3, .int x3), (4, .int x4), (5, .int x5), (6, .int x6), (7, .int x7), (8, .int x8)]) hx hb dX12_watched_66 hl (by decide) rfl (fun ls hl => ?_)
  refine lv_iload hx hb dX12_watched_68 (lv_at hl 0 rfl) ?_
  refine lv_if_eq (tgt := 95) hx hb dX12_watched_70 (by decide) (fun c_12 => ?_) (fun c_12 => ?_)
  · replace h := it_at h c_12
    exact w_X12_watched_95 C _ hk9 _ _ _ _ _ _ _ _ _ _ _ _ hw (lv_sub hl [1, 2, 3, 4, 5, 6, 7, 8, 9] rfl) h
  · replace h := ie_at h c_12
    refine lv_iload hx hb dX12_watched_73 (lv_at hl 6 rfl) ?_
    refine lv_iconst (v := (-1)) hx hb dX12_watched_75 (by decide) ?_
    refine lv_icmp_eq (tgt := 91) hx hb dX12_watched_76 (by decide) (fun c_13 => ?_) (fun c_13 => ?_)
    · replace h := it_at h c_13
      exact w_X12_watched_91 C _ hk9 _ _ _ _ _ _ _ _ _ _ _ _ hw (lv_sub hl [1, 2, 3, 4, 5, 6, 7, 8, 9] rfl) h
    · replace h := ie_at h c_13
      refine lv_aload_n hx hb dX12_watched_79 rfl (lv_at hl 1 rfl) ?_
      refine gf_12_17 C hw tM_0 kw_1035 dX12_watched_80 ?_
      refine lv_iload hx hb dX12_watched_83 (lv_at hl 9 rfl) ?_
      obtain ⟨g_14, h⟩ := gd_at h
      refine q_iald C hw tM_6 g_14 dX12_watched_85 ?_
      refine lv_iload hx hb dX12_watched_86 (lv_at hl 7 rfl) ?_
      refine lv_icmp_le (tgt := 95) hx hb dX12_watched_88 (by decide) (fun c_15 => ?_) (fun c_15 => ?_)
      · replace h := it_at h c_15
        exact w_X12_watched_95 C _ hk9 _ _ _ _ _ _ _ _ _ _ _ _ hw (lv_sub hl [1, 2, 3, 4, 5, 6, 7, 8, 9] rfl) h
      · replace h := ie_at h c_15
        exact w_X12_watched_91 C _ hk9 _ _ _ _ _ _ _ _ _ _ _ _ hw (lv_sub hl [1, 2, 3, 4, 5, 6, 7, 8, 9] rfl) h
set_option maxHeartbeats 4000000 in
set_option maxRecDepth 100000 in
theorem w_X12_watched_65 {p : Program} {l : Launch} {e : Env} {s : State} {m : MethodId} {args : Array Value} {below : List Frame} {meth : Method} {c : Code} {E : EV} {rr : Int32} {τ : Mem} (C : Cx E p s m args meth c cX12_watched 11 (some .int) RX12) (k9 : Int32 → Int32 → Int32 → Int32 → Int32 → Int32 → Int32 → Mem → Option (Int32 × Mem)) (hk9 : ∀ (x1 : Int32) (x2 : Int32) (x3 : Int32) (x4 : Int32) (x5 : Int32) (x6 : Int32) (x7 : Int32) (σ : Mem) (H : Heap) (locs : List Loc) (ls : Array Slot) (hw : Wd TM E σ s H locs) (hl : lv_has ls 11 [(0, .ref (E.2.1 (0))), (1, .int x1), (2, .int x2), (3, .int x3), (4, .int x4), (5, .int x5), (6, .int x6), (7, .int x7)]) (h : k9 x1 x2 x3 x4 x5 x6 x7 σ = some (rr, τ)), W p l e { frames := 4, cells := 0, slots := 0, locals := 106 } s m args below meth c H locs 0 0 (MQ below (QI TM E rr τ) args s 0 0 E.2.2.1) (F0 m 9 ls [])) : ∀ (x1 : Int32) (x2 : Int32) (x3 : Int32) (x4 : Int32) (x5 : Int32) (x6 : Int32) (x7 : Int32) (x8 : Int32) (σ : Mem) (H : Heap) (locs : List Loc) (ls : Array Slot) (hw : Wd TM E σ s H locs) (hl : lv_has ls 11 [(0, .ref (E.2.1 (0))), (1, .int x1), (2, .int x2), (3, .int x3), (4, .int x4), (5, .int x5), (6, .int x6), (7, .int x7), (8, .int x8)]) (h : f_X12_watched_65 k9 x1 x2 x3 x4 x5 x6 x7 x8 σ = some (rr, τ)), W p l e { frames := 4, cells := 0, slots := 0, locals := 106 } s m args below meth c H locs 0 0 (MQ below (QI TM E rr τ) args s 0 0 E.2.2.1) (F0 m 65 ls []) := by
  obtain ⟨hx, hb, hml, hown, hts, hK, hSt, hlk, hr⟩ := id C
  intro x1 x2 x3 x4 x5 x6 x7 x8 σ H locs ls hw hl h
  unfold f_X12_watched_65 at h
  refine lv_iconst (v := 0) hx hb dX12_watched_65 (by decide) ?_
  exact w_X12_watched_66 C _ hk9 _ _ _ _ _ _ _ _ _ _ _ _ _ hw (lv_sub hl [0, 1, 2, 3, 4, 5, 6, 7, 8] rfl) h
set_option maxHeartbeats 4000000 in
set_option maxRecDepth 100000 in
theorem w_X12_watched_41 {p : Program} {l : Launch} {e : Env} {s : State} {m : MethodId} {args : Array Value} {below : List Frame} {meth : Method} {c : Code} {E : EV} {rr : Int32} {τ : Mem} (C : Cx E p s m args meth c cX12_watched 11 (some .int) RX12) (k9 : Int32 → Int32 → Int32 → Int32 → Int32 → Int32 → Int32 → Mem → Option (Int32 × Mem)) (hk9 : ∀ (x1 : Int32) (x2 : Int32) (x3 : Int32) (x4 : Int32) (x5 : Int32) (x6 : Int32) (x7 : Int32) (σ : Mem) (H : Heap) (locs : List Loc) (ls : Array Slot) (hw : Wd TM E σ s H locs) (hl : lv_has ls 11 [(0, .ref (E.2.1 (0))), (1, .int x1), (2, .int x2), (3, .int x3), (4, .int x4), (5, .int x5), (6, .int x6), (7, .int x7)]) (h : k9 x1 x2 x3 x4 x5 x6 x7 σ = some (rr, τ)), W p l e { frames := 4, cells := 0, slots := 0, locals := 106 } s m args below meth c H locs 0 0 (MQ below (QI TM E rr τ) args s 0 0 E.2.2.1) (F0 m 9 ls [])) : ∀ (x1 : Int32) (x2 : Int32) (x3 : Int32) (x4 : Int32) (x5 : Int32) (x6 : Int32) (x7 : Int32) (x8 : Int32) (σ : Mem) (H : Heap) (locs : List Loc) (ls : Array Slot) (hw : Wd TM E σ s H locs) (hl : lv_has ls 11 [(0, .ref (E.2.1 (0))), (1, .int x1), (2, .int x2), (3, .int x3), (4, .int x4), (5, .int x5), (6, .int x6), (7, .int x7), (8, .int x8)]) (h : f_X12_watched_41 k9 x1 x2 x3 x4 x5 x6 x7 x8 σ = some (rr, τ)), W p l e { frames := 4, cells := 0, slots := 0, locals := 106 } s m args below meth c H locs 0 0 (MQ below (QI TM E rr τ) args s 0 0 E.2.2.1) (F0 m 41 ls []) := by
  obtain ⟨hx, hb, hml, hown, hts, hK, hSt, hlk, hr⟩ := id C
  intro x1 x2 x3 x4 x5 x6 x7 x8 σ H locs ls hw hl h
  unfold f_X12_watched_41 at h
  refine lv_aload_n hx hb dX12_watched_41 rfl (lv_at hl 0 rfl) ?_
  refine gf_12_17 C hw tM_0 kw_1035 dX12_watched_42 ?_
  refine lv_iload hx hb dX12_watched_45 (lv_at hl 8 rfl) ?_
  obtain ⟨g_8, h⟩ := gd_at h
  refine q_iald C hw tM_6 g_8 dX12_watched_47 ?_
  refine lv_if_lt (tgt := 65) hx hb dX12_watched_48 (by decide) (fun c_9 => ?_) (fun c_9 => ?_)
  · replace h := it_at h c_9
    exact w_X12_watched_65 C _ hk9 _ _ _ _ _ _ _ _ _ _ _ _ hw (lv_sub hl [0, 1, 2, 3, 4, 5, 6, 7, 8] rfl) h
  · replace h := ie_at h c_9
    refine lv_aload_n hx hb dX12_watched_51 rfl (lv_at hl 0 rfl) ?_
    refine gf_12_20 C hw tM_0 kw_1038 dX12_watched_52 ?_
    refine lv_iload hx hb dX12_watched_55 (lv_at hl 8 rfl) ?_
    obtain ⟨g_10, h⟩ := gd_at h
    refine q_zald C hw tM_9 g_10 dX12_watched_57 ?_
    refine lv_if_ne (tgt := 65) hx hb dX12_watched_58 (by decide) (fun c_11 => ?_) (fun c_11 => ?_)
    · replace h := ie_at h c_11
      exact w_X12_watched_65 C _ hk9 _ _ _ _ _ _ _ _ _ _ _ _ hw (lv_sub hl [0, 1, 2, 3, 4, 5, 6, 7, 8] rfl) h
    · replace h := it_at h c_11
      refine lv_iconst (v := 1) hx hb dX12_watched_61 (by decide) ?_
      refine lv_goto (tgt := 66) hx hb dX12_watched_62 (by decide) ?_
      exact w_X12_watched_66 C _ hk9 _ _ _ _ _ _ _ _ _ _ _ _ _ hw (lv_sub hl [0, 1, 2, 3, 4, 5, 6, 7, 8] rfl) h
set_option maxHeartbeats 4000000 in
set_option maxRecDepth 100000 in
theorem w_X12_watched_9 {p : Program} {l : Launch} {e : Env} {s : State} {m : MethodId} {args : Array Value} {below : List Frame} {meth : Method} {c : Code} {E : EV} {rr : Int32} {τ : Mem} (C : Cx E p s m args meth c cX12_watched 11 (some .int) RX12) : ∀ (n : Nat) (x1 : Int32) (x2 : Int32) (x3 : Int32) (x4 : Int32) (x5 : Int32) (x6 : Int32) (x7 : Int32) (σ : Mem) (H : Heap) (locs : List Loc) (ls : Array Slot) (hw : Wd TM E σ s H locs) (hl : lv_has ls 11 [(0, .ref (E.2.1 (0))), (1, .int x1), (2, .int x2), (3, .int x3), (4, .int x4), (5, .int x5), (6, .int x6), (7, .int x7)]) (h : fx8 (f_X12_watched_9) n x1 x2 x3 x4 x5 x6 x7 σ = some (rr, τ)), W p l e { frames := 4, cells := 0, slots := 0, locals := 106 } s m args below meth c H locs 0 0 (MQ below (QI TM E rr τ) args s 0 0 E.2.2.1) (F0 m 9 ls []) := by
  obtain ⟨hx, hb, hml, hown, hts, hK, hSt, hlk, hr⟩ := id C
  intro n
  induction n with
  | zero =>
    intro x1 x2 x3 x4 x5 x6 x7 σ H locs ls hw hl h
    have h : none = some (rr, τ) := h
    cases h
  | succ n hk9 =>
    intro x1 x2 x3 x4 x5 x6 x7 σ H locs ls hw hl h
    replace h : f_X12_watched_9 (fx8 (f_X12_watched_9) n) x1 x2 x3 x4 x5 x6 x7 σ = some (rr, τ) := h
    unfold f_X12_watched_9 at h
    refine lv_iload hx hb dX12_watched_9 (lv_at hl 7 rfl) ?_
    refine lv_bipush (v := 8) hx hb dX12_watched_11 (by decide) ?_
    refine lv_icmp_ge (tgt := 137) hx hb dX12_watched_13 (by decide) (fun c_1 => ?_) (fun c_1 => ?_)
    · replace h := it_at h c_1
      refine lv_iload hx hb dX12_watched_137 (lv_at hl 5 rfl) ?_
      refine lv_iconst (v := (-1)) hx hb dX12_watched_139 (by decide) ?_
      refine lv_icmp_ne (tgt := 147) hx hb dX12_watched_140 (by decide) (fun c_2 => ?_) (fun c_2 => ?_)
      · replace h := ie_at h c_2
        refine lv_iload hx hb dX12_watched_147 (lv_at hl 5 rfl) ?_
        obtain ⟨rfl, rfl⟩ := ret_at h
        exact q_iret C hw dX12_watched_149
      · replace h := it_at h c_2
        refine lv_iconst (v := 0) hx hb dX12_watched_143 (by decide) ?_
        refine lv_goto (tgt := 149) hx hb dX12_watched_144 (by decide) ?_
        obtain ⟨rfl, rfl⟩ := ret_at h
        exact q_iret C hw dX12_watched_149
    · replace h := ie_at h c_1
      refine lv_aload_n hx hb dX12_watched_16 rfl (lv_at hl 0 rfl) ?_
      refine lv_iload_n hx hb dX12_watched_17 rfl (lv_at hl 1 rfl) ?_
      refine lv_iload hx hb dX12_watched_18 (lv_at hl 7 rfl) ?_
      refine lv_iload_n hx hb dX12_watched_20 rfl (lv_at hl 3 rfl) ?_
      refine lv_iload hx hb dX12_watched_21 (lv_at hl 4 rfl) ?_
      obtain ⟨r_3, σ_4, h_5, h⟩ := bd_at h
      refine q_afterI hw (q_runV C hw hl.1 (As := [.int x1, .int x7, .int x3, .int x4]) (rest := []) (m_X12_hourPlace l E x1 x7 x3 x4 σ r_3 σ_4 h_5) yq_X12_hourPlace tM_0 rfl rfl kw_1287 ⟨Nat.le_of_ble_eq_true rfl, Nat.le_of_ble_eq_true rfl⟩ rfl (Nat.le_of_ble_eq_true rfl) ⟨Nat.zero_le _, Nat.zero_le _⟩ dX12_watched_23) (fun H locs hw => ?_)
      refine lv_istore (lv' := [(8, .int r_3), (0, .ref (E.2.1 (0))), (1, .int x1), (2, .int x2), (3, .int x3), (4, .int x4), (5, .int x5), (6, .int x6), (7, .int x7)]) hx hb dX12_watched_26 hl (by decide) rfl (fun ls hl => ?_)
      refine lv_iload_n hx hb dX12_watched_28 rfl (lv_at hl 3 rfl) ?_
      refine lv_iconst (v := (-1)) hx hb dX12_watched_29 (by decide) ?_
      refine lv_icmp_eq (tgt := 41) hx hb dX12_watched_30 (by decide) (fun c_6 => ?_) (fun c_6 => ?_)
      · replace h := it_at h c_6
        exact w_X12_watched_41 C _ hk9 _ _ _ _ _ _ _ _ _ _ _ _ hw (lv_sub hl [1, 2, 3, 4, 5, 6, 7, 8, 0] rfl) h
      · replace h := ie_at h c_6
        refine lv_iload hx hb dX12_watched_33 (lv_at hl 8 rfl) ?_
        refine lv_iconst (v := 2) hx hb dX12_watched_35 (by decide) ?_
        refine q_irem hx hb dX12_watched_36 (by decide) ?_
        refine lv_iload_n hx hb dX12_watched_37 rfl (lv_at hl 3 rfl) ?_
        refine lv_icmp_ne (tgt := 65) hx hb dX12_watched_38 (by decide) (fun c_7 => ?_) (fun c_7 => ?_)
        · replace h := ie_at h c_7
          exact w_X12_watched_65 C _ hk9 _ _ _ _ _ _ _ _ _ _ _ _ hw (lv_sub hl [1, 2, 3, 4, 5, 6, 7, 8, 0] rfl) h
        · replace h := it_at h c_7
          exact w_X12_watched_41 C _ hk9 _ _ _ _ _ _ _ _ _ _ _ _ hw (lv_sub hl [1, 2, 3, 4, 5, 6, 7, 8, 0] rfl) h
set_option maxHeartbeats 4000000 in
set_option maxRecDepth 100000 in
theorem m_X12_watched (l : Launch) (E : EV) (p1 : Int32) (p2 : Int32) (p3 : Int32) (p4 : Int32) (σ : Mem) (rr : Int32) (τ : Mem) (h : f_X12_watched p1 p2 p3 p4 σ = some (rr, τ)) : MI TM l E yX12_watched cX12_watched 11 (some .int) 4 106 [.ref (E.2.1 (0)), .int p1, .int p2, .int p3, .int p4] σ rr τ := by
  refine mt_start RX12 (by decide +kernel) rfl (Nat.le_of_ble_eq_true rfl) (fun p e s m args below meth c ls C hw hl => ?_)
  replace hl : lv_has ls 11 [(0, .ref (E.2.1 (0))), (1, .int p1), (2, .int p2), (3, .int p3), (4, .int p4)] := hl
  obtain ⟨hx, hb, hml, hown, hts, hK, hSt, hlk, hr⟩ := id C
  unfold f_X12_watched at h
  refine lv_iconst (v := (-1)) hx hb dX12_watched_0 (by decide) ?_
  refine lv_istore (lv' := [(5, .int (-1 : Int32)), (0, .ref (E.2.1 (0))), (1, .int p1), (2, .int p2), (3, .int p3), (4, .int p4)]) hx hb dX12_watched_1 hl (by decide) rfl (fun ls hl => ?_)
  refine lv_iconst (v := 0) hx hb dX12_watched_3 (by decide) ?_
  refine lv_istore (lv' := [(6, .int (0 : Int32)), (5, .int (-1 : Int32)), (0, .ref (E.2.1 (0))), (1, .int p1), (2, .int p2), (3, .int p3), (4, .int p4)]) hx hb dX12_watched_4 hl (by decide) rfl (fun ls hl => ?_)
  refine lv_iconst (v := 0) hx hb dX12_watched_6 (by decide) ?_
  refine lv_istore (lv' := [(7, .int (0 : Int32)), (6, .int (0 : Int32)), (5, .int (-1 : Int32)), (0, .ref (E.2.1 (0))), (1, .int p1), (2, .int p2), (3, .int p3), (4, .int p4)]) hx hb dX12_watched_7 hl (by decide) rfl (fun ls hl => ?_)
  exact w_X12_watched_9 C _ _ _ _ _ _ _ _ _ _ _ _ hw (lv_sub hl [3, 4, 5, 6, 7, 2, 1, 0] rfl) h
def f_X12_isSafe_47 (k6 : Int32 → Int32 → Int32 → Int32 → Int32 → Int32 → Mem → Option (Int32 × Mem)) (x1 : Int32) (x2 : Int32) (x3 : Int32) (x4 : Int32) (x6 : Int32) (s0 : Int32) (σ : Mem) : Option (Int32 × Mem) :=
  lt (x6 + (1 : Int32)) fun x6_11 =>
  k6 x1 x2 x3 x4 s0 x6_11 σ
def f_X12_isSafe_46 (k6 : Int32 → Int32 → Int32 → Int32 → Int32 → Int32 → Mem → Option (Int32 × Mem)) (x1 : Int32) (x2 : Int32) (x3 : Int32) (x4 : Int32) (x6 : Int32) (σ : Mem) : Option (Int32 × Mem) :=
  f_X12_isSafe_47 k6 x1 x2 x3 x4 x6 (0 : Int32) σ
def f_X12_isSafe_6 (k6 : Int32 → Int32 → Int32 → Int32 → Int32 → Int32 → Mem → Option (Int32 × Mem)) (x1 : Int32) (x2 : Int32) (x3 : Int32) (x4 : Int32) (x5 : Int32) (x6 : Int32) (σ : Mem) : Option (Int32 × Mem) :=
  if x2 < x6 then
    (gd (iz x5) (some (x5, σ)))
  else
    if (6 : Int32) ≤ x6 then
      (gd (iz x5) (some (x5, σ)))
    else
      if x5 = 0 then
        (f_X12_isSafe_46 k6 x1 x2 x3 x4 x6 σ)
      else
        bd (f_X12_hourPlace x6 x1 x3 x4 σ) fun r_6 σ_7 =>
        gd (ib r_6 4800) <|
        if (gI σ_7 6 r_6.toNatClampNeg) < 0 then
          (f_X12_isSafe_46 k6 x1 x2 x3 x4 x6 σ_7)
        else
          f_X12_isSafe_47 k6 x1 x2 x3 x4 x6 (1 : Int32) σ_7
def f_X12_isSafe (p1 : Int32) (p2 : Int32) (p3 : Int32) (p4 : Int32) (σ : Mem) : Option (Int32 × Mem) :=
  fx7 (f_X12_isSafe_6) FU p1 p2 p3 p4 (1 : Int32) (0 : Int32) σ
set_option maxHeartbeats 4000000 in
set_option maxRecDepth 100000 in
theorem w_X12_isSafe_47 {p : Program} {l : Launch} {e : Env} {s : State} {m : MethodId} {args : Array Value} {below : List Frame} {meth : Method} {c : Code} {E : EV} {rr : Int32} {τ : Mem} (C : Cx E p s m args meth c cX12_isSafe 7 (some .boolean) RX12) (k6 : Int32 → Int32 → Int32 → Int32 → Int32 → Int32 → Mem → Option (Int32 × Mem)) (hk6 : ∀ (x1 : Int32) (x2 : Int32) (x3 : Int32) (x4 : Int32) (x5 : Int32) (x6 : Int32) (σ : Mem) (H : Heap) (locs : List Loc) (ls : Array Slot) (hw : Wd TM E σ s H locs) (hl : lv_has ls 7 [(0, .ref (E.2.1 (0))), (1, .int x1), (2, .int x2), (3, .int x3), (4, .int x4), (5, .int x5), (6, .int x6)]) (h : k6 x1 x2 x3 x4 x5 x6 σ = some (rr, τ)), W p l e { frames := 4, cells := 0, slots := 0, locals := 106 } s m args below meth c H locs 0 0 (MQ below (QI TM E rr τ) args s 0 0 E.2.2.1) (F0 m 6 ls [])) : ∀ (x1 : Int32) (x2 : Int32) (x3 : Int32) (x4 : Int32) (x6 : Int32) (s0 : Int32) (σ : Mem) (H : Heap) (locs : List Loc) (ls : Array Slot) (hw : Wd TM E σ s H locs) (hl : lv_has ls 7 [(0, .ref (E.2.1 (0))), (1, .int x1), (2, .int x2), (3, .int x3), (4, .int x4), (6, .int x6)]) (h : f_X12_isSafe_47 k6 x1 x2 x3 x4 x6 s0 σ = some (rr, τ)), W p l e { frames := 4, cells := 0, slots := 0, locals := 106 } s m args below meth c H locs 0 0 (MQ below (QI TM E rr τ) args s 0 0 E.2.2.1) (F0 m 47 ls [.int s0]) := by
  obtain ⟨hx, hb, hml, hown, hts, hK, hSt, hlk, hr⟩ := id C
  intro x1 x2 x3 x4 x6 s0 σ H locs ls hw hl h
  unfold f_X12_isSafe_47 at h
  refine lv_istore (lv' := [(5, .int s0), (0, .ref (E.2.1 (0))), (1, .int x1), (2, .int x2), (3, .int x3), (4, .int x4), (6, .int x6)]) hx hb dX12_isSafe_47 hl (by decide) rfl (fun ls hl => ?_)
  obtain ⟨x6_11, ex6_11, h⟩ := lt_at h
  refine lv_iinc (v := x6_11) (lv' := [(6, .int x6_11), (5, .int s0), (0, .ref (E.2.1 (0))), (1, .int x1), (2, .int x2), (3, .int x3), (4, .int x4)]) hx hb dX12_isSafe_49 hl (k := 6) rfl (by rw [ex6_11]; rfl) (by decide) rfl (fun ls hl => ?_)
  refine lv_goto (tgt := 6) hx hb dX12_isSafe_52 (by decide) ?_
  exact hk6 _ _ _ _ _ _ _ _ _ _ hw (lv_sub hl [2, 3, 4, 5, 6, 1, 0] rfl) h
set_option maxHeartbeats 4000000 in
set_option maxRecDepth 100000 in
theorem w_X12_isSafe_46 {p : Program} {l : Launch} {e : Env} {s : State} {m : MethodId} {args : Array Value} {below : List Frame} {meth : Method} {c : Code} {E : EV} {rr : Int32} {τ : Mem} (C : Cx E p s m args meth c cX12_isSafe 7 (some .boolean) RX12) (k6 : Int32 → Int32 → Int32 → Int32 → Int32 → Int32 → Mem → Option (Int32 × Mem)) (hk6 : ∀ (x1 : Int32) (x2 : Int32) (x3 : Int32) (x4 : Int32) (x5 : Int32) (x6 : Int32) (σ : Mem) (H : Heap) (locs : List Loc) (ls : Array Slot) (hw : Wd TM E σ s H locs) (hl : lv_has ls 7 [(0, .ref (E.2.1 (0))), (1, .int x1), (2, .int x2), (3, .int x3), (4, .int x4), (5, .int x5), (6, .int x6)]) (h : k6 x1 x2 x3 x4 x5 x6 σ = some (rr, τ)), W p l e { frames := 4, cells := 0, slots := 0, locals := 106 } s m args below meth c H locs 0 0 (MQ below (QI TM E rr τ) args s 0 0 E.2.2.1) (F0 m 6 ls [])) : ∀ (x1 : Int32) (x2 : Int32) (x3 : Int32) (x4 : Int32) (x6 : Int32) (σ : Mem) (H : Heap) (locs : List Loc) (ls : Array Slot) (hw : Wd TM E σ s H locs) (hl : lv_has ls 7 [(0, .ref (E.2.1 (0))), (1, .int x1), (2, .int x2), (3, .int x3), (4, .int x4), (6, .int x6)]) (h : f_X12_isSafe_46 k6 x1 x2 x3 x4 x6 σ = some (rr, τ)), W p l e { frames := 4, cells := 0, slots := 0, locals := 106 } s m args below meth c H locs 0 0 (MQ below (QI TM E rr τ) args s 0 0 E.2.2.1) (F0 m 46 ls []) := by
  obtain ⟨hx, hb, hml, hown, hts, hK, hSt, hlk, hr⟩ := id C
  intro x1 x2 x3 x4 x6 σ H locs ls hw hl h
  unfold f_X12_isSafe_46 at h
  refine lv_iconst (v := 0) hx hb dX12_isSafe_46 (by decide) ?_
  exact w_X12_isSafe_47 C _ hk6 _ _ _ _ _ _ _ _ _ _ hw (lv_sub hl [0, 1, 2, 3, 4, 5] rfl) h
set_option maxHeartbeats 4000000 in
set_option maxRecDepth 100000 in
theorem w_X12_isSafe_6 {p : Program} {l : Launch} {e : Env} {s : State} {m : MethodId} {args : Array Value} {below : List Frame} {meth : Method} {c : Code} {E : EV} {rr : Int32} {τ : Mem} (C : Cx E p s m args meth c cX12_isSafe 7 (some .boolean) RX12) : ∀ (n : Nat) (x1 : Int32) (x2 : Int32) (x3 : Int32) (x4 : Int32) (x5 : Int32) (x6 : Int32) (σ : Mem) (H : Heap) (locs : List Loc) (ls : Array Slot) (hw : Wd TM E σ s H locs) (hl : lv_has ls 7 [(0, .ref (E.2.1 (0))), (1, .int x1), (2, .int x2), (3, .int x3), (4, .int x4), (5, .int x5), (6, .int x6)]) (h : fx7 (f_X12_isSafe_6) n x1 x2 x3 x4 x5 x6 σ = some (rr, τ)), W p l e { frames := 4, cells := 0, slots := 0, locals := 106 } s m args below meth c H locs 0 0 (MQ below (QI TM E rr τ) args s 0 0 E.2.2.1) (F0 m 6 ls []) := by
  obtain ⟨hx, hb, hml, hown, hts, hK, hSt, hlk, hr⟩ := id C
  intro n
  induction n with
  | zero =>
    intro x1 x2 x3 x4 x5 x6 σ H locs ls hw hl h
    have h : none = some (rr, τ) := h
    cases h
  | succ n hk6 =>
    intro x1 x2 x3 x4 x5 x6 σ H locs ls hw hl h
    replace h : f_X12_isSafe_6 (fx7 (f_X12_isSafe_6) n) x1 x2 x3 x4 x5 x6 σ = some (rr, τ) := h
    unfold f_X12_isSafe_6 at h
    refine lv_iload hx hb dX12_isSafe_6 (lv_at hl 6 rfl) ?_
    refine lv_iload_n hx hb dX12_isSafe_8 rfl (lv_at hl 2 rfl) ?_
    refine lv_icmp_gt (tgt := 55) hx hb dX12_isSafe_9 (by decide) (fun c_1 => ?_) (fun c_1 => ?_)
    · replace h := it_at h c_1
      refine lv_iload hx hb dX12_isSafe_55 (lv_at hl 5 rfl) ?_
      obtain ⟨g_2, h⟩ := gd_at h
      obtain ⟨rfl, rfl⟩ := ret_at h
      exact q_zret C g_2 hw dX12_isSafe_57
    · replace h := ie_at h c_1
      refine lv_iload hx hb dX12_isSafe_12 (lv_at hl 6 rfl) ?_
      refine lv_bipush (v := 6) hx hb dX12_isSafe_14 (by decide) ?_
      refine lv_icmp_ge (tgt := 55) hx hb dX12_isSafe_16 (by decide) (fun c_3 => ?_) (fun c_3 => ?_)
      · replace h := it_at h c_3
        refine lv_iload hx hb dX12_isSafe_55 (lv_at hl 5 rfl) ?_
        obtain ⟨g_4, h⟩ := gd_at h
        obtain ⟨rfl, rfl⟩ := ret_at h
        exact q_zret C g_4 hw dX12_isSafe_57
      · replace h := ie_at h c_3
        refine lv_iload hx hb dX12_isSafe_19 (lv_at hl 5 rfl) ?_
        refine lv_if_eq (tgt := 46) hx hb dX12_isSafe_21 (by decide) (fun c_5 => ?_) (fun c_5 => ?_)
        · replace h := it_at h c_5
          exact w_X12_isSafe_46 C _ hk6 _ _ _ _ _ _ _ _ _ hw (lv_sub hl [0, 1, 2, 3, 4, 6] rfl) h
        · replace h := ie_at h c_5
          refine lv_aload_n hx hb dX12_isSafe_24 rfl (lv_at hl 0 rfl) ?_
          refine gf_12_17 C hw tM_0 kw_1035 dX12_isSafe_25 ?_
          refine lv_aload_n hx hb dX12_isSafe_28 rfl (lv_at hl 0 rfl) ?_
          refine lv_iload hx hb dX12_isSafe_29 (lv_at hl 6 rfl) ?_
          refine lv_iload_n hx hb dX12_isSafe_31 rfl (lv_at hl 1 rfl) ?_
          refine lv_iload_n hx hb dX12_isSafe_32 rfl (lv_at hl 3 rfl) ?_
          refine lv_iload hx hb dX12_isSafe_33 (lv_at hl 4 rfl) ?_
          obtain ⟨r_6, σ_7, h_8, h⟩ := bd_at h
          refine q_afterI hw (q_runV C hw hl.1 (As := [.int x6, .int x1, .int x3, .int x4]) (rest := [.ref (E.2.1 (6))]) (m_X12_hourPlace l E x6 x1 x3 x4 σ r_6 σ_7 h_8) yq_X12_hourPlace tM_0 rfl rfl kw_1287 ⟨Nat.le_of_ble_eq_true rfl, Nat.le_of_ble_eq_true rfl⟩ rfl (Nat.le_of_ble_eq_true rfl) ⟨Nat.zero_le _, Nat.zero_le _⟩ dX12_isSafe_35) (fun H locs hw => ?_)
          obtain ⟨g_9, h⟩ := gd_at h
          refine q_iald C hw tM_6 g_9 dX12_isSafe_38 ?_
          refine lv_if_lt (tgt := 46) hx hb dX12_isSafe_39 (by decide) (fun c_10 => ?_) (fun c_10 => ?_)
          · replace h := it_at h c_10
            exact w_X12_isSafe_46 C _ hk6 _ _ _ _ _ _ _ _ _ hw (lv_sub hl [0, 1, 2, 3, 4, 6] rfl) h
          · replace h := ie_at h c_10
            refine lv_iconst (v := 1) hx hb dX12_isSafe_42 (by decide) ?_
            refine lv_goto (tgt := 47) hx hb dX12_isSafe_43 (by decide) ?_
            exact w_X12_isSafe_47 C _ hk6 _ _ _ _ _ _ _ _ _ _ hw (lv_sub hl [0, 1, 2, 3, 4, 6] rfl) h
set_option maxHeartbeats 4000000 in
set_option maxRecDepth 100000 in
theorem m_X12_isSafe (l : Launch) (E : EV) (p1 : Int32) (p2 : Int32) (p3 : Int32) (p4 : Int32) (σ : Mem) (rr : Int32) (τ : Mem) (h : f_X12_isSafe p1 p2 p3 p4 σ = some (rr, τ)) : MI TM l E yX12_isSafe cX12_isSafe 7 (some .boolean) 4 106 [.ref (E.2.1 (0)), .int p1, .int p2, .int p3, .int p4] σ rr τ := by
  refine mt_start RX12 (by decide +kernel) rfl (Nat.le_of_ble_eq_true rfl) (fun p e s m args below meth c ls C hw hl => ?_)
  replace hl : lv_has ls 7 [(0, .ref (E.2.1 (0))), (1, .int p1), (2, .int p2), (3, .int p3), (4, .int p4)] := hl
  obtain ⟨hx, hb, hml, hown, hts, hK, hSt, hlk, hr⟩ := id C
  unfold f_X12_isSafe at h
  refine lv_iconst (v := 1) hx hb dX12_isSafe_0 (by decide) ?_
  refine lv_istore (lv' := [(5, .int (1 : Int32)), (0, .ref (E.2.1 (0))), (1, .int p1), (2, .int p2), (3, .int p3), (4, .int p4)]) hx hb dX12_isSafe_1 hl (by decide) rfl (fun ls hl => ?_)
  refine lv_iconst (v := 0) hx hb dX12_isSafe_3 (by decide) ?_
  refine lv_istore (lv' := [(6, .int (0 : Int32)), (5, .int (1 : Int32)), (0, .ref (E.2.1 (0))), (1, .int p1), (2, .int p2), (3, .int p3), (4, .int p4)]) hx hb dX12_isSafe_4 hl (by decide) rfl (fun ls hl => ?_)
  exact w_X12_isSafe_6 C _ _ _ _ _ _ _ _ _ _ _ hw (lv_sub hl [2, 3, 4, 5, 6, 1, 0] rfl) h
def f_X12_with_101 (rc : Int32 → Int32 → Int32 → Int32 → Mem → Option (Int64 × Mem)) (k48 : Int32 → Int32 → Int32 → Int32 → Int32 → Int64 → Int32 → Mem → Option (Int64 × Mem)) (x1 : Int32) (x2 : Int32) (x6 : Int32) (x7 : Int32) (x8 : Int32) (x11 : Int32) (s0 : Int64) (s1 : Int64) (σ : Mem) : Option (Int64 × Mem) :=
  lt (s0 + s1) fun x9_18 =>
  lt (x11 + (1 : Int32)) fun x11_19 =>
  k48 x1 x2 x6 x7 x8 x9_18 x11_19 σ
def f_X12_with_48 (rc : Int32 → Int32 → Int32 → Int32 → Mem → Option (Int64 × Mem)) (k48 : Int32 → Int32 → Int32 → Int32 → Int32 → Int64 → Int32 → Mem → Option (Int64 × Mem)) (x1 : Int32) (x2 : Int32) (x6 : Int32) (x7 : Int32) (x8 : Int32) (x9 : Int64) (x11 : Int32) (σ : Mem) : Option (Int64 × Mem) :=
  if (6 : Int32) ≤ x11 then
    (gd (ib x6 4800) <|
    some (((1000 : Int64) * ((gI σ 6 x6.toNatClampNeg).toInt64)) + (x9 / (1000 : Int64)), σ))
  else
    gd (ib (((851 : Int32) + ((6 : Int32) * x2)) + x11) 1055) <|
    lt (gI σ 1 (((851 : Int32) + ((6 : Int32) * x2)) + x11).toNatClampNeg) fun x12_13 =>
    if x12_13 = 0 then
      (f_X12_with_101 rc k48 x1 x2 x6 x7 x8 x11 x9 (0 : Int64) σ)
    else
      bd (rc (x1 - (1 : Int32)) x11 x7 x8 σ) fun r_15 σ_16 =>
      f_X12_with_101 rc k48 x1 x2 x6 x7 x8 x11 x9 ((x12_13.toInt64) * r_15) σ_16
def f_X12_with (rc : Int32 → Int32 → Int32 → Int32 → Mem → Option (Int64 × Mem)) (p1 : Int32) (p2 : Int32) (p3 : Int32) (p4 : Int32) (p5 : Int32) (σ : Mem) : Option (Int64 × Mem) :=
  bd (f_X12_hourPlace p2 p3 p4 p5 σ) fun r_1 σ_2 =>
  gd (ib r_1 4800) <|
  if 0 ≤ (gI σ_2 6 r_1.toNatClampNeg) then
    (gd (ib r_1 4800) <|
    lt (gI σ_2 7 r_1.toNatClampNeg) fun x7_7 =>
    gd (ib r_1 4800) <|
    lt (gI σ_2 8 r_1.toNatClampNeg) fun x8_9 =>
    fx8 (f_X12_with_48 rc) FU p1 p2 r_1 x7_7 x8_9 (0 : Int64) (0 : Int32) σ_2)
  else
    some ((0 : Int64), σ_2)
set_option maxHeartbeats 4000000 in
set_option maxRecDepth 100000 in
theorem w_X12_with_101 {p : Program} {l : Launch} {e : Env} {s : State} {m : MethodId} {args : Array Value} {below : List Frame} {meth : Method} {c : Code} {E : EV} {rr : Int64} {τ : Mem} (C : Cx E p s m args meth c cX12_with 13 (some .long) RX12) {rc : Int32 → Int32 → Int32 → Int32 → Mem → Option (Int64 × Mem)} {fr lo : Nat} (hF : 40 ≤ fr) (hL : 1200 ≤ lo) (hrc : ∀ (p1 : Int32) (p2 : Int32) (p3 : Int32) (p4 : Int32) (σ : Mem) (rr : Int64) (τ : Mem), rc p1 p2 p3 p4 σ = some (rr, τ) → ML TM l E yX12_bestFrom cX12_bestFrom 11 (some .long) fr lo [.ref (E.2.1 (0)), .int p1, .int p2, .int p3, .int p4] σ rr τ) (k48 : Int32 → Int32 → Int32 → Int32 → Int32 → Int64 → Int32 → Mem → Option (Int64 × Mem)) (hk48 : ∀ (x1 : Int32) (x2 : Int32) (x6 : Int32) (x7 : Int32) (x8 : Int32) (x9 : Int64) (x11 : Int32) (σ : Mem) (H : Heap) (locs : List Loc) (ls : Array Slot) (hw : Wd TM E σ s H locs) (hl : lv_has ls 13 [(0, .ref (E.2.1 (0))), (1, .int x1), (2, .int x2), (6, .int x6), (7, .int x7), (8, .int x8), (9, .long x9), (11, .int x11)]) (h : k48 x1 x2 x6 x7 x8 x9 x11 σ = some (rr, τ)), W p l e { frames := fr + 1, cells := 0, slots := 0, locals := lo + 30 } s m args below meth c H locs 0 0 (MQ below (QL TM E rr τ) args s 0 0 E.2.2.1) (F0 m 48 ls [])) : ∀ (x1 : Int32) (x2 : Int32) (x6 : Int32) (x7 : Int32) (x8 : Int32) (x11 : Int32) (s0 : Int64) (s1 : Int64) (σ : Mem) (H : Heap) (locs : List Loc) (ls : Array Slot) (hw : Wd TM E σ s H locs) (hl : lv_has ls 13 [(0, .ref (E.2.1 (0))), (1, .int x1), (2, .int x2), (6, .int x6), (7, .int x7), (8, .int x8), (11, .int x11)]) (h : f_X12_with_101 rc k48 x1 x2 x6 x7 x8 x11 s0 s1 σ = some (rr, τ)), W p l e { frames := fr + 1, cells := 0, slots := 0, locals := lo + 30 } s m args below meth c H locs 0 0 (MQ below (QL TM E rr τ) args s 0 0 E.2.2.1) (F0 m 101 ls [.long s1, .long s0]) := by
  obtain ⟨hx, hb, hml, hown, hts, hK, hSt, hlk, hr⟩ := id C
  intro x1 x2 x6 x7 x8 x11 s0 s1 σ H locs ls hw hl h
  unfold f_X12_with_101 at h
  refine lv_ladd hx hb dX12_with_101 ?_
  obtain ⟨x9_18, ex9_18, h⟩ := lt_at h
  refine q_topl ex9_18 ?_
  refine lv_lstore (lv' := [(9, .long x9_18), (0, .ref (E.2.1 (0))), (1, .int x1), (2, .int x2), (6, .int x6), (7, .int x7), (8, .int x8), (11, .int x11)]) hx hb dX12_with_102 hl (by decide) rfl (fun ls hl => ?_)
  obtain ⟨x11_19, ex11_19, h⟩ := lt_at h
  refine lv_iinc (v := x11_19) (lv' := [(11, .int x11_19), (9, .long x9_18), (0, .ref (E.2.1 (0))), (1, .int x1), (2, .int x2), (6, .int x6), (7, .int x7), (8, .int x8)]) hx hb dX12_with_104 hl (k := 7) rfl (by rw [ex11_19]; rfl) (by decide) rfl (fun ls hl => ?_)
  refine lv_goto (tgt := 48) hx hb dX12_with_107 (by decide) ?_
  exact hk48 _ _ _ _ _ _ _ _ _ _ _ hw (lv_sub hl [2, 3, 4, 5, 6, 7, 1, 0] rfl) h
set_option maxHeartbeats 4000000 in
set_option maxRecDepth 100000 in
theorem w_X12_with_48 {p : Program} {l : Launch} {e : Env} {s : State} {m : MethodId} {args : Array Value} {below : List Frame} {meth : Method} {c : Code} {E : EV} {rr : Int64} {τ : Mem} (C : Cx E p s m args meth c cX12_with 13 (some .long) RX12) {rc : Int32 → Int32 → Int32 → Int32 → Mem → Option (Int64 × Mem)} {fr lo : Nat} (hF : 40 ≤ fr) (hL : 1200 ≤ lo) (hrc : ∀ (p1 : Int32) (p2 : Int32) (p3 : Int32) (p4 : Int32) (σ : Mem) (rr : Int64) (τ : Mem), rc p1 p2 p3 p4 σ = some (rr, τ) → ML TM l E yX12_bestFrom cX12_bestFrom 11 (some .long) fr lo [.ref (E.2.1 (0)), .int p1, .int p2, .int p3, .int p4] σ rr τ) : ∀ (n : Nat) (x1 : Int32) (x2 : Int32) (x6 : Int32) (x7 : Int32) (x8 : Int32) (x9 : Int64) (x11 : Int32) (σ : Mem) (H : Heap) (locs : List Loc) (ls : Array Slot) (hw : Wd TM E σ s H locs) (hl : lv_has ls 13 [(0, .ref (E.2.1 (0))), (1, .int x1), (2, .int x2), (6, .int x6), (7, .int x7), (8, .int x8), (9, .long x9), (11, .int x11)]) (h : fx8 (f_X12_with_48 rc) n x1 x2 x6 x7 x8 x9 x11 σ = some (rr, τ)), W p l e { frames := fr + 1, cells := 0, slots := 0, locals := lo + 30 } s m args below meth c H locs 0 0 (MQ below (QL TM E rr τ) args s 0 0 E.2.2.1) (F0 m 48 ls []) := by
  obtain ⟨hx, hb, hml, hown, hts, hK, hSt, hlk, hr⟩ := id C
  intro n
  induction n with
  | zero =>
    intro x1 x2 x6 x7 x8 x9 x11 σ H locs ls hw hl h
    have h : none = some (rr, τ) := h
    cases h
  | succ n hk48 =>
    intro x1 x2 x6 x7 x8 x9 x11 σ H locs ls hw hl h
    replace h : f_X12_with_48 rc (fx8 (f_X12_with_48 rc) n) x1 x2 x6 x7 x8 x9 x11 σ = some (rr, τ) := h
    unfold f_X12_with_48 at h
    refine lv_iload hx hb dX12_with_48 (lv_at hl 7 rfl) ?_
    refine lv_bipush (v := 6) hx hb dX12_with_50 (by decide) ?_
    refine lv_icmp_ge (tgt := 110) hx hb dX12_with_52 (by decide) (fun c_10 => ?_) (fun c_10 => ?_)
    · replace h := it_at h c_10
      refine lv_ldc2 hx hb hown (hts _ kw_1307) dX12_with_110 ?_
      refine lv_aload_n hx hb dX12_with_113 rfl (lv_at hl 0 rfl) ?_
      refine gf_12_17 C hw tM_0 kw_1035 dX12_with_114 ?_
      refine lv_iload hx hb dX12_with_117 (lv_at hl 3 rfl) ?_
      obtain ⟨g_11, h⟩ := gd_at h
      refine q_iald C hw tM_6 g_11 dX12_with_119 ?_
      refine lv_i2l hx hb dX12_with_120 rfl ?_
      refine lv_lmul hx hb dX12_with_121 ?_
      refine lv_lload hx hb dX12_with_122 (lv_at hl 6 rfl) ?_
      refine lv_ldc2 hx hb hown (hts _ kw_1307) dX12_with_124 ?_
      refine lv_ldiv hx hb dX12_with_127 (by decide) ?_
      refine lv_ladd hx hb dX12_with_128 ?_
      obtain ⟨rfl, rfl⟩ := ret_at h
      exact q_lret C hw dX12_with_129
    · replace h := ie_at h c_10
      refine lv_aload_n hx hb dX12_with_55 rfl (lv_at hl 0 rfl) ?_
      refine gf_12_1 C hw tM_0 kw_1019 dX12_with_56 ?_
      refine lv_sipush (v := 851) hx hb dX12_with_59 (by decide) ?_
      refine lv_bipush (v := 6) hx hb dX12_with_62 (by decide) ?_
      refine lv_iload_n hx hb dX12_with_64 rfl (lv_at hl 2 rfl) ?_
      refine lv_imul hx hb dX12_with_65 ?_
      refine lv_iadd hx hb dX12_with_66 ?_
      refine lv_iload hx hb dX12_with_67 (lv_at hl 7 rfl) ?_
      refine lv_iadd hx hb dX12_with_69 ?_
      obtain ⟨g_12, h⟩ := gd_at h
      refine q_iald C hw tM_1 g_12 dX12_with_70 ?_
      obtain ⟨x12_13, ex12_13, h⟩ := lt_at h
      refine q_top ex12_13 ?_
      refine lv_istore (lv' := [(12, .int x12_13), (0, .ref (E.2.1 (0))), (1, .int x1), (2, .int x2), (6, .int x6), (7, .int x7), (8, .int x8), (9, .long x9), (11, .int x11)]) hx hb dX12_with_71 hl (by decide) rfl (fun ls hl => ?_)
      refine lv_lload hx hb dX12_with_73 (lv_at hl 7 rfl) ?_
      refine lv_iload hx hb dX12_with_75 (lv_at hl 0 rfl) ?_
      refine lv_if_ne (tgt := 84) hx hb dX12_with_77 (by decide) (fun c_14 => ?_) (fun c_14 => ?_)
      · replace h := ie_at h c_14
        refine lv_iload hx hb dX12_with_84 (lv_at hl 0 rfl) ?_
        refine lv_i2l hx hb dX12_with_86 rfl ?_
        refine lv_aload_n hx hb dX12_with_87 rfl (lv_at hl 1 rfl) ?_
        refine lv_iload_n hx hb dX12_with_88 rfl (lv_at hl 2 rfl) ?_
        refine lv_iconst (v := 1) hx hb dX12_with_89 (by decide) ?_
        refine lv_isub hx hb dX12_with_90 ?_
        refine lv_iload hx hb dX12_with_91 (lv_at hl 8 rfl) ?_
        refine lv_iload hx hb dX12_with_93 (lv_at hl 5 rfl) ?_
        refine lv_iload hx hb dX12_with_95 (lv_at hl 6 rfl) ?_
        obtain ⟨r_15, σ_16, h_17, h⟩ := bd_at h
        refine q_afterL hw (q_runV C hw hl.1 (As := [.int (x1 - (1 : Int32)), .int x11, .int x7, .int x8]) (rest := [.long (x12_13.toInt64), .long x9]) (hrc (x1 - (1 : Int32)) x11 x7 x8 σ r_15 σ_16 h_17) yq_X12_bestFrom tM_0 rfl rfl kw_1303 ⟨by dsimp only; omega, by dsimp only; omega⟩ rfl (Nat.le_of_ble_eq_true rfl) ⟨Nat.zero_le _, Nat.zero_le _⟩ dX12_with_97) (fun H locs hw => ?_)
        refine lv_lmul hx hb dX12_with_100 ?_
        exact w_X12_with_101 C hF hL hrc _ hk48 _ _ _ _ _ _ _ _ _ _ _ _ hw (lv_sub hl [1, 2, 3, 4, 5, 6, 8] rfl) h
      · replace h := it_at h c_14
        refine lv_lconst (v := 0) hx hb dX12_with_80 (by decide) ?_
        refine lv_goto (tgt := 101) hx hb dX12_with_81 (by decide) ?_
        exact w_X12_with_101 C hF hL hrc _ hk48 _ _ _ _ _ _ _ _ _ _ _ _ hw (lv_sub hl [1, 2, 3, 4, 5, 6, 8] rfl) h
set_option maxHeartbeats 4000000 in
set_option maxRecDepth 100000 in
theorem m_X12_with (l : Launch) (E : EV) (rc : Int32 → Int32 → Int32 → Int32 → Mem → Option (Int64 × Mem)) {fr lo : Nat} (hF : 40 ≤ fr) (hL : 1200 ≤ lo) (hrc : ∀ (p1 : Int32) (p2 : Int32) (p3 : Int32) (p4 : Int32) (σ : Mem) (rr : Int64) (τ : Mem), rc p1 p2 p3 p4 σ = some (rr, τ) → ML TM l E yX12_bestFrom cX12_bestFrom 11 (some .long) fr lo [.ref (E.2.1 (0)), .int p1, .int p2, .int p3, .int p4] σ rr τ) (p1 : Int32) (p2 : Int32) (p3 : Int32) (p4 : Int32) (p5 : Int32) (σ : Mem) (rr : Int64) (τ : Mem) (h : f_X12_with rc p1 p2 p3 p4 p5 σ = some (rr, τ)) : ML TM l E yX12_with cX12_with 13 (some .long) (fr + 1) (lo + 30) [.ref (E.2.1 (0)), .int p1, .int p2, .int p3, .int p4, .int p5] σ rr τ := by
  refine mt_start RX12 (by decide +kernel) rfl (Nat.le_of_ble_eq_true rfl) (fun p e s m args below meth c ls C hw hl => ?_)
  replace hl : lv_has ls 13 [(0, .ref (E.2.1 (0))), (1, .int p1), (2, .int p2), (3, .int p3), (4, .int p4), (5, .int p5)] := hl
  obtain ⟨hx, hb, hml, hown, hts, hK, hSt, hlk, hr⟩ := id C
  unfold f_X12_with at h
  refine lv_aload_n hx hb dX12_with_0 rfl (lv_at hl 0 rfl) ?_
  refine lv_iload_n hx hb dX12_with_1 rfl (lv_at hl 2 rfl) ?_
  refine lv_iload_n hx hb dX12_with_2 rfl (lv_at hl 3 rfl) ?_
  refine lv_iload hx hb dX12_with_3 (lv_at hl 4 rfl) ?_
  refine lv_iload hx hb dX12_with_5 (lv_at hl 5 rfl) ?_
  obtain ⟨r_1, σ_2, h_3, h⟩ := bd_at h
  refine q_afterI hw (q_runV C hw hl.1 (As := [.int p2, .int p3, .int p4, .int p5]) (rest := []) (m_X12_hourPlace l E p2 p3 p4 p5 σ r_1 σ_2 h_3) yq_X12_hourPlace tM_0 rfl rfl kw_1287 ⟨by dsimp only; omega, by dsimp only; omega⟩ rfl (Nat.le_of_ble_eq_true rfl) ⟨Nat.zero_le _, Nat.zero_le _⟩ dX12_with_7) (fun H locs hw => ?_)
  refine lv_istore (lv' := [(6, .int r_1), (0, .ref (E.2.1 (0))), (1, .int p1), (2, .int p2), (3, .int p3), (4, .int p4), (5, .int p5)]) hx hb dX12_with_10 hl (by decide) rfl (fun ls hl => ?_)
  refine lv_aload_n hx hb dX12_with_12 rfl (lv_at hl 1 rfl) ?_
  refine gf_12_17 C hw tM_0 kw_1035 dX12_with_13 ?_
  refine lv_iload hx hb dX12_with_16 (lv_at hl 0 rfl) ?_
  obtain ⟨g_4, h⟩ := gd_at h
  refine q_iald C hw tM_6 g_4 dX12_with_18 ?_
  refine lv_if_ge (tgt := 24) hx hb dX12_with_19 (by decide) (fun c_5 => ?_) (fun c_5 => ?_)
  · replace h := it_at h c_5
    refine lv_aload_n hx hb dX12_with_24 rfl (lv_at hl 1 rfl) ?_
    refine gf_12_18 C hw tM_0 kw_1036 dX12_with_25 ?_
    refine lv_iload hx hb dX12_with_28 (lv_at hl 0 rfl) ?_
    obtain ⟨g_6, h⟩ := gd_at h
    refine q_iald C hw tM_7 g_6 dX12_with_30 ?_
    obtain ⟨x7_7, ex7_7, h⟩ := lt_at h
    refine q_top ex7_7 ?_
    refine lv_istore (lv' := [(7, .int x7_7), (6, .int r_1), (0, .ref (E.2.1 (0))), (1, .int p1), (2, .int p2), (3, .int p3), (4, .int p4), (5, .int p5)]) hx hb dX12_with_31 hl (by decide) rfl (fun ls hl => ?_)
    refine lv_aload_n hx hb dX12_with_33 rfl (lv_at hl 2 rfl) ?_
    refine gf_12_19 C hw tM_0 kw_1037 dX12_with_34 ?_
    refine lv_iload hx hb dX12_with_37 (lv_at hl 1 rfl) ?_
    obtain ⟨g_8, h⟩ := gd_at h
    refine q_iald C hw tM_8 g_8 dX12_with_39 ?_
    obtain ⟨x8_9, ex8_9, h⟩ := lt_at h
    refine q_top ex8_9 ?_
    refine lv_istore (lv' := [(8, .int x8_9), (7, .int x7_7), (6, .int r_1), (0, .ref (E.2.1 (0))), (1, .int p1), (2, .int p2), (3, .int p3), (4, .int p4), (5, .int p5)]) hx hb dX12_with_40 hl (by decide) rfl (fun ls hl => ?_)
    refine lv_lconst (v := 0) hx hb dX12_with_42 (by decide) ?_
    refine lv_lstore (lv' := [(9, .long (0 : Int64)), (8, .int x8_9), (7, .int x7_7), (6, .int r_1), (0, .ref (E.2.1 (0))), (1, .int p1), (2, .int p2), (3, .int p3), (4, .int p4), (5, .int p5)]) hx hb dX12_with_43 hl (by decide) rfl (fun ls hl => ?_)
    refine lv_iconst (v := 0) hx hb dX12_with_45 (by decide) ?_
    refine lv_istore (lv' := [(11, .int (0 : Int32)), (9, .long (0 : Int64)), (8, .int x8_9), (7, .int x7_7), (6, .int r_1), (0, .ref (E.2.1 (0))), (1, .int p1), (2, .int p2), (3, .int p3), (4, .int p4), (5, .int p5)]) hx hb dX12_with_46 hl (by decide) rfl (fun ls hl => ?_)
    exact w_X12_with_48 C hF hL hrc _ _ _ _ _ _ _ _ _ _ _ _ hw (lv_sub hl [5, 6, 7, 4, 3, 2, 1, 0] rfl) h
  · replace h := ie_at h c_5
    refine lv_lconst (v := 0) hx hb dX12_with_22 (by decide) ?_
    obtain ⟨rfl, rfl⟩ := ret_at h
    exact q_lret C hw dX12_with_23
def f_X12_bestFrom_82 (rc : Int32 → Int32 → Int32 → Int32 → Mem → Option (Int64 × Mem)) (k47 : Int32 → Int32 → Int32 → Int32 → Int32 → Int64 → Int32 → Mem → Option (Int64 × Mem)) (x1 : Int32) (x2 : Int32) (x3 : Int32) (x4 : Int32) (x5 : Int32) (x8 : Int32) (s0 : Int64) (σ : Mem) : Option (Int64 × Mem) :=
  lt (x8 + (1 : Int32)) fun x8_16 =>
  k47 x1 x2 x3 x4 x5 s0 x8_16 σ
def f_X12_bestFrom_47 (rc : Int32 → Int32 → Int32 → Int32 → Mem → Option (Int64 × Mem)) (k47 : Int32 → Int32 → Int32 → Int32 → Int32 → Int64 → Int32 → Mem → Option (Int64 × Mem)) (x1 : Int32) (x2 : Int32) (x3 : Int32) (x4 : Int32) (x5 : Int32) (x6 : Int64) (x8 : Int32) (σ : Mem) : Option (Int64 × Mem) :=
  if (8 : Int32) ≤ x8 then
    (gd (ib x5 4200) <|
    lt (sI σ 10 x5.toNatClampNeg (gI σ 0 25)) fun σ_7 =>
    gd (ib x5 4200) <|
    lt (sL σ_7 12 x5.toNatClampNeg x6) fun σ_9 =>
    gd (ib x5 4200) <|
    some (gL σ_9 12 x5.toNatClampNeg, σ_9))
  else
    bd (f_X12_with rc x1 x2 x8 x3 x4 σ) fun r_12 σ_13 =>
    if (lg_cmp r_12 x6) ≤ 0 then
      (f_X12_bestFrom_82 rc k47 x1 x2 x3 x4 x5 x8 x6 σ_13)
    else
      f_X12_bestFrom_82 rc k47 x1 x2 x3 x4 x5 x8 r_12 σ_13
def f_X12_bestFrom_F (rc : Int32 → Int32 → Int32 → Int32 → Mem → Option (Int64 × Mem)) (p1 : Int32) (p2 : Int32) (p3 : Int32) (p4 : Int32) (σ : Mem) : Option (Int64 × Mem) :=
  if p1 = 0 then
    (some ((0 : Int64), σ))
  else
    lt (((((((6 : Int32) * (p1 - (1 : Int32))) + p2) * (10 : Int32)) + p3) * (10 : Int32)) + p4) fun x5_2 =>
    gd (ib x5_2 4200) <|
    if (gI σ 10 x5_2.toNatClampNeg) = (gI σ 0 25) then
      (gd (ib x5_2 4200) <|
      some (gL σ 12 x5_2.toNatClampNeg, σ))
    else
      fx8 (f_X12_bestFrom_47 rc) FU p1 p2 p3 p4 x5_2 (0 : Int64) (0 : Int32) σ
def f_X12_bestFrom (p1 : Int32) (p2 : Int32) (p3 : Int32) (p4 : Int32) (σ : Mem) : Option (Int64 × Mem) := fx5 f_X12_bestFrom_F 16 p1 p2 p3 p4 σ
set_option maxHeartbeats 4000000 in
set_option maxRecDepth 100000 in
theorem w_X12_bestFrom_82 {p : Program} {l : Launch} {e : Env} {s : State} {m : MethodId} {args : Array Value} {below : List Frame} {meth : Method} {c : Code} {E : EV} {rr : Int64} {τ : Mem} (C : Cx E p s m args meth c cX12_bestFrom 11 (some .long) RX12) {rc : Int32 → Int32 → Int32 → Int32 → Mem → Option (Int64 × Mem)} {fr lo : Nat} (hF : 40 ≤ fr) (hL : 1200 ≤ lo) (hrc : ∀ (p1 : Int32) (p2 : Int32) (p3 : Int32) (p4 : Int32) (σ : Mem) (rr : Int64) (τ : Mem), rc p1 p2 p3 p4 σ = some (rr, τ) → ML TM l E yX12_bestFrom cX12_bestFrom 11 (some .long) fr lo [.ref (E.2.1 (0)), .int p1, .int p2, .int p3, .int p4] σ rr τ) (k47 : Int32 → Int32 → Int32 → Int32 → Int32 → Int64 → Int32 → Mem → Option (Int64 × Mem)) (hk47 : ∀ (x1 : Int32) (x2 : Int32) (x3 : Int32) (x4 : Int32) (x5 : Int32) (x6 : Int64) (x8 : Int32) (σ : Mem) (H : Heap) (locs : List Loc) (ls : Array Slot) (hw : Wd TM E σ s H locs) (hl : lv_has ls 11 [(0, .ref (E.2.1 (0))), (1, .int x1), (2, .int x2), (3, .int x3), (4, .int x4), (5, .int x5), (6, .long x6), (8, .int x8)]) (h : k47 x1 x2 x3 x4 x5 x6 x8 σ = some (rr, τ)), W p l e { frames := fr + 2, cells := 0, slots := 0, locals := lo + 62 } s m args below meth c H locs 0 0 (MQ below (QL TM E rr τ) args s 0 0 E.2.2.1) (F0 m 47 ls [])) : ∀ (x1 : Int32) (x2 : Int32) (x3 : Int32) (x4 : Int32) (x5 : Int32) (x8 : Int32) (s0 : Int64) (σ : Mem) (H : Heap) (locs : List Loc) (ls : Array Slot) (hw : Wd TM E σ s H locs) (hl : lv_has ls 11 [(0, .ref (E.2.1 (0))), (1, .int x1), (2, .int x2), (3, .int x3), (4, .int x4), (5, .int x5), (8, .int x8)]) (h : f_X12_bestFrom_82 rc k47 x1 x2 x3 x4 x5 x8 s0 σ = some (rr, τ)), W p l e { frames := fr + 2, cells := 0, slots := 0, locals := lo + 62 } s m args below meth c H locs 0 0 (MQ below (QL TM E rr τ) args s 0 0 E.2.2.1) (F0 m 82 ls [.long s0]) := by
  obtain ⟨hx, hb, hml, hown, hts, hK, hSt, hlk, hr⟩ := id C
  intro x1 x2 x3 x4 x5 x8 s0 σ H locs ls hw hl h
  unfold f_X12_bestFrom_82 at h
  refine lv_lstore (lv' := [(6, .long s0), (0, .ref (E.2.1 (0))), (1, .int x1), (2, .int x2), (3, .int x3), (4, .int x4), (5, .int x5), (8, .int x8)]) hx hb dX12_bestFrom_82 hl (by decide) rfl (fun ls hl => ?_)
  obtain ⟨x8_16, ex8_16, h⟩ := lt_at h
  refine lv_iinc (v := x8_16) (lv' := [(8, .int x8_16), (6, .long s0), (0, .ref (E.2.1 (0))), (1, .int x1), (2, .int x2), (3, .int x3), (4, .int x4), (5, .int x5)]) hx hb dX12_bestFrom_84 hl (k := 7) rfl (by rw [ex8_16]; rfl) (by decide) rfl (fun ls hl => ?_)
  refine lv_goto (tgt := 47) hx hb dX12_bestFrom_87 (by decide) ?_
  exact hk47 _ _ _ _ _ _ _ _ _ _ _ hw (lv_sub hl [2, 3, 4, 5, 6, 7, 1, 0] rfl) h
set_option maxHeartbeats 4000000 in
set_option maxRecDepth 100000 in
theorem w_X12_bestFrom_47 {p : Program} {l : Launch} {e : Env} {s : State} {m : MethodId} {args : Array Value} {below : List Frame} {meth : Method} {c : Code} {E : EV} {rr : Int64} {τ : Mem} (C : Cx E p s m args meth c cX12_bestFrom 11 (some .long) RX12) {rc : Int32 → Int32 → Int32 → Int32 → Mem → Option (Int64 × Mem)} {fr lo : Nat} (hF : 40 ≤ fr) (hL : 1200 ≤ lo) (hrc : ∀ (p1 : Int32) (p2 : Int32) (p3 : Int32) (p4 : Int32) (σ : Mem) (rr : Int64) (τ : Mem), rc p1 p2 p3 p4 σ = some (rr, τ) → ML TM l E yX12_bestFrom cX12_bestFrom 11 (some .long) fr lo [.ref (E.2.1 (0)), .int p1, .int p2, .int p3, .int p4] σ rr τ) : ∀ (n : Nat) (x1 : Int32) (x2 : Int32) (x3 : Int32) (x4 : Int32) (x5 : Int32) (x6 : Int64) (x8 : Int32) (σ : Mem) (H : Heap) (locs : List Loc) (ls : Array Slot) (hw : Wd TM E σ s H locs) (hl : lv_has ls 11 [(0, .ref (E.2.1 (0))), (1, .int x1), (2, .int x2), (3, .int x3), (4, .int x4), (5, .int x5), (6, .long x6), (8, .int x8)]) (h : fx8 (f_X12_bestFrom_47 rc) n x1 x2 x3 x4 x5 x6 x8 σ = some (rr, τ)), W p l e { frames := fr + 2, cells := 0, slots := 0, locals := lo + 62 } s m args below meth c H locs 0 0 (MQ below (QL TM E rr τ) args s 0 0 E.2.2.1) (F0 m 47 ls []) := by
  obtain ⟨hx, hb, hml, hown, hts, hK, hSt, hlk, hr⟩ := id C
  intro n
  induction n with
  | zero =>
    intro x1 x2 x3 x4 x5 x6 x8 σ H locs ls hw hl h
    have h : none = some (rr, τ) := h
    cases h
  | succ n hk47 =>
    intro x1 x2 x3 x4 x5 x6 x8 σ H locs ls hw hl h
    replace h : f_X12_bestFrom_47 rc (fx8 (f_X12_bestFrom_47 rc) n) x1 x2 x3 x4 x5 x6 x8 σ = some (rr, τ) := h
    unfold f_X12_bestFrom_47 at h
    refine lv_iload hx hb dX12_bestFrom_47 (lv_at hl 7 rfl) ?_
    refine lv_bipush (v := 8) hx hb dX12_bestFrom_49 (by decide) ?_
    refine lv_icmp_ge (tgt := 90) hx hb dX12_bestFrom_51 (by decide) (fun c_6 => ?_) (fun c_6 => ?_)
    · replace h := it_at h c_6
      refine lv_aload_n hx hb dX12_bestFrom_90 rfl (lv_at hl 0 rfl) ?_
      refine gf_12_21 C hw tM_0 kw_1039 dX12_bestFrom_91 ?_
      refine lv_iload hx hb dX12_bestFrom_94 (lv_at hl 5 rfl) ?_
      refine lv_aload_n hx hb dX12_bestFrom_96 rfl (lv_at hl 0 rfl) ?_
      refine gf_12_25 C hw tM_0 kw_1043 dX12_bestFrom_97 ?_
      obtain ⟨g_8, h⟩ := gd_at h
      obtain ⟨σ_7, eσ_7, h⟩ := lt_at h
      refine q_iast C hw tM_10 g_8 eσ_7 dX12_bestFrom_100 (fun H locs hw => ?_)
      refine lv_aload_n hx hb dX12_bestFrom_101 rfl (lv_at hl 0 rfl) ?_
      refine gf_12_23 C hw tM_0 kw_1041 dX12_bestFrom_102 ?_
      refine lv_iload hx hb dX12_bestFrom_105 (lv_at hl 5 rfl) ?_
      refine lv_lload hx hb dX12_bestFrom_107 (lv_at hl 6 rfl) ?_
      obtain ⟨g_10, h⟩ := gd_at h
      obtain ⟨σ_9, eσ_9, h⟩ := lt_at h
      refine q_last C hw tM_12 g_10 eσ_9 dX12_bestFrom_109 (fun H locs hw => ?_)
      refine lv_aload_n hx hb dX12_bestFrom_110 rfl (lv_at hl 0 rfl) ?_
      refine gf_12_23 C hw tM_0 kw_1041 dX12_bestFrom_111 ?_
      refine lv_iload hx hb dX12_bestFrom_114 (lv_at hl 5 rfl) ?_
      obtain ⟨g_11, h⟩ := gd_at h
      refine q_lald C hw tM_12 g_11 dX12_bestFrom_116 ?_
      obtain ⟨rfl, rfl⟩ := ret_at h
      exact q_lret C hw dX12_bestFrom_117
    · replace h := ie_at h c_6
      refine lv_aload_n hx hb dX12_bestFrom_54 rfl (lv_at hl 0 rfl) ?_
      refine lv_iload_n hx hb dX12_bestFrom_55 rfl (lv_at hl 1 rfl) ?_
      refine lv_iload_n hx hb dX12_bestFrom_56 rfl (lv_at hl 2 rfl) ?_
      refine lv_iload hx hb dX12_bestFrom_57 (lv_at hl 7 rfl) ?_
      refine lv_iload_n hx hb dX12_bestFrom_59 rfl (lv_at hl 3 rfl) ?_
      refine lv_iload hx hb dX12_bestFrom_60 (lv_at hl 4 rfl) ?_
      obtain ⟨r_12, σ_13, h_14, h⟩ := bd_at h
      refine q_afterL hw (q_runV C hw hl.1 (As := [.int x1, .int x2, .int x8, .int x3, .int x4]) (rest := []) (m_X12_with l E rc hF hL hrc x1 x2 x8 x3 x4 σ r_12 σ_13 h_14) yq_X12_with tM_0 rfl rfl kw_1299 ⟨by dsimp only; omega, by dsimp only; omega⟩ rfl (Nat.le_of_ble_eq_true rfl) ⟨Nat.zero_le _, Nat.zero_le _⟩ dX12_bestFrom_62) (fun H locs hw => ?_)
      refine lv_lstore (lv' := [(9, .long r_12), (0, .ref (E.2.1 (0))), (1, .int x1), (2, .int x2), (3, .int x3), (4, .int x4), (5, .int x5), (6, .long x6), (8, .int x8)]) hx hb dX12_bestFrom_65 hl (by decide) rfl (fun ls hl => ?_)
      refine lv_lload hx hb dX12_bestFrom_67 (lv_at hl 0 rfl) ?_
      refine lv_lload hx hb dX12_bestFrom_69 (lv_at hl 7 rfl) ?_
      refine W.lcmp hx hb dX12_bestFrom_71 ?_
      refine lv_if_le (tgt := 80) hx hb dX12_bestFrom_72 (by decide) (fun c_15 => ?_) (fun c_15 => ?_)
      · replace h := it_at h c_15
        refine lv_lload hx hb dX12_bestFrom_80 (lv_at hl 7 rfl) ?_
        exact w_X12_bestFrom_82 C hF hL hrc _ hk47 _ _ _ _ _ _ _ _ _ _ _ hw (lv_sub hl [1, 2, 3, 4, 5, 6, 8] rfl) h
      · replace h := ie_at h c_15
        refine lv_lload hx hb dX12_bestFrom_75 (lv_at hl 0 rfl) ?_
        refine lv_goto (tgt := 82) hx hb dX12_bestFrom_77 (by decide) ?_
        exact w_X12_bestFrom_82 C hF hL hrc _ hk47 _ _ _ _ _ _ _ _ _ _ _ hw (lv_sub hl [1, 2, 3, 4, 5, 6, 8] rfl) h
set_option maxHeartbeats 4000000 in
set_option maxRecDepth 100000 in
theorem m_X12_bestFrom_F (l : Launch) (E : EV) (rc : Int32 → Int32 → Int32 → Int32 → Mem → Option (Int64 × Mem)) {fr lo : Nat} (hF : 40 ≤ fr) (hL : 1200 ≤ lo) (hrc : ∀ (p1 : Int32) (p2 : Int32) (p3 : Int32) (p4 : Int32) (σ : Mem) (rr : Int64) (τ : Mem), rc p1 p2 p3 p4 σ = some (rr, τ) → ML TM l E yX12_bestFrom cX12_bestFrom 11 (some .long) fr lo [.ref (E.2.1 (0)), .int p1, .int p2, .int p3, .int p4] σ rr τ) (p1 : Int32) (p2 : Int32) (p3 : Int32) (p4 : Int32) (σ : Mem) (rr : Int64) (τ : Mem) (h : f_X12_bestFrom_F rc p1 p2 p3 p4 σ = some (rr, τ)) : ML TM l E yX12_bestFrom cX12_bestFrom 11 (some .long) (fr + 2) (lo + 62) [.ref (E.2.1 (0)), .int p1, .int p2, .int p3, .int p4] σ rr τ := by
  refine mt_start RX12 (by decide +kernel) rfl (Nat.le_of_ble_eq_true rfl) (fun p e s m args below meth c ls C hw hl => ?_)
  replace hl : lv_has ls 11 [(0, .ref (E.2.1 (0))), (1, .int p1), (2, .int p2), (3, .int p3), (4, .int p4)] := hl
  obtain ⟨hx, hb, hml, hown, hts, hK, hSt, hlk, hr⟩ := id C
  unfold f_X12_bestFrom_F at h
  refine lv_iload_n hx hb dX12_bestFrom_0 rfl (lv_at hl 1 rfl) ?_
  refine lv_if_ne (tgt := 6) hx hb dX12_bestFrom_1 (by decide) (fun c_1 => ?_) (fun c_1 => ?_)
  · replace h := ie_at h c_1
    refine lv_bipush (v := 6) hx hb dX12_bestFrom_6 (by decide) ?_
    refine lv_iload_n hx hb dX12_bestFrom_8 rfl (lv_at hl 1 rfl) ?_
    refine lv_iconst (v := 1) hx hb dX12_bestFrom_9 (by decide) ?_
    refine lv_isub hx hb dX12_bestFrom_10 ?_
    refine lv_imul hx hb dX12_bestFrom_11 ?_
    refine lv_iload_n hx hb dX12_bestFrom_12 rfl (lv_at hl 2 rfl) ?_
    refine lv_iadd hx hb dX12_bestFrom_13 ?_
    refine lv_bipush (v := 10) hx hb dX12_bestFrom_14 (by decide) ?_
    refine lv_imul hx hb dX12_bestFrom_16 ?_
    refine lv_iload_n hx hb dX12_bestFrom_17 rfl (lv_at hl 3 rfl) ?_
    refine lv_iadd hx hb dX12_bestFrom_18 ?_
    refine lv_bipush (v := 10) hx hb dX12_bestFrom_19 (by decide) ?_
    refine lv_imul hx hb dX12_bestFrom_21 ?_
    refine lv_iload hx hb dX12_bestFrom_22 (lv_at hl 4 rfl) ?_
    refine lv_iadd hx hb dX12_bestFrom_24 ?_
    obtain ⟨x5_2, ex5_2, h⟩ := lt_at h
    refine q_top ex5_2 ?_
    refine lv_istore (lv' := [(5, .int x5_2), (0, .ref (E.2.1 (0))), (1, .int p1), (2, .int p2), (3, .int p3), (4, .int p4)]) hx hb dX12_bestFrom_25 hl (by decide) rfl (fun ls hl => ?_)
    refine lv_aload_n hx hb dX12_bestFrom_27 rfl (lv_at hl 1 rfl) ?_
    refine gf_12_21 C hw tM_0 kw_1039 dX12_bestFrom_28 ?_
    refine lv_iload hx hb dX12_bestFrom_31 (lv_at hl 0 rfl) ?_
    obtain ⟨g_3, h⟩ := gd_at h
    refine q_iald C hw tM_10 g_3 dX12_bestFrom_33 ?_
    refine lv_aload_n hx hb dX12_bestFrom_34 rfl (lv_at hl 1 rfl) ?_
    refine gf_12_25 C hw tM_0 kw_1043 dX12_bestFrom_35 ?_
    refine lv_icmp_eq (tgt := 110) hx hb dX12_bestFrom_38 (by decide) (fun c_4 => ?_) (fun c_4 => ?_)
    · replace h := it_at h c_4
      refine lv_aload_n hx hb dX12_bestFrom_110 rfl (lv_at hl 1 rfl) ?_
      refine gf_12_23 C hw tM_0 kw_1041 dX12_bestFrom_111 ?_
      refine lv_iload hx hb dX12_bestFrom_114 (lv_at hl 0 rfl) ?_
      obtain ⟨g_5, h⟩ := gd_at h
      refine q_lald C hw tM_12 g_5 dX12_bestFrom_116 ?_
      obtain ⟨rfl, rfl⟩ := ret_at h
      exact q_lret C hw dX12_bestFrom_117
    · replace h := ie_at h c_4
      refine lv_lconst (v := 0) hx hb dX12_bestFrom_41 (by decide) ?_
      refine lv_lstore (lv' := [(6, .long (0 : Int64)), (5, .int x5_2), (0, .ref (E.2.1 (0))), (1, .int p1), (2, .int p2), (3, .int p3), (4, .int p4)]) hx hb dX12_bestFrom_42 hl (by decide) rfl (fun ls hl => ?_)
      refine lv_iconst (v := 0) hx hb dX12_bestFrom_44 (by decide) ?_
      refine lv_istore (lv' := [(8, .int (0 : Int32)), (6, .long (0 : Int64)), (5, .int x5_2), (0, .ref (E.2.1 (0))), (1, .int p1), (2, .int p2), (3, .int p3), (4, .int p4)]) hx hb dX12_bestFrom_45 hl (by decide) rfl (fun ls hl => ?_)
      exact w_X12_bestFrom_47 C hF hL hrc _ _ _ _ _ _ _ _ _ _ _ _ hw (lv_sub hl [3, 4, 5, 6, 7, 2, 1, 0] rfl) h
  · replace h := it_at h c_1
    refine lv_lconst (v := 0) hx hb dX12_bestFrom_4 (by decide) ?_
    obtain ⟨rfl, rfl⟩ := ret_at h
    exact q_lret C hw dX12_bestFrom_5
theorem md_X12_bestFrom (l : Launch) (E : EV) : ∀ (d : Nat) (p1 : Int32) (p2 : Int32) (p3 : Int32) (p4 : Int32) (σ : Mem) (rr : Int64) (τ : Mem), fx5 f_X12_bestFrom_F d p1 p2 p3 p4 σ = some (rr, τ) → ML TM l E yX12_bestFrom cX12_bestFrom 11 (some .long) (40 + 2 * d) (1200 + 62 * d) [.ref (E.2.1 (0)), .int p1, .int p2, .int p3, .int p4] σ rr τ := by
  intro d
  induction d with
  | zero =>
    intro p1 p2 p3 p4 σ rr τ h
    have h : none = some (rr, τ) := h
    cases h
  | succ n ih =>
    intro p1 p2 p3 p4 σ rr τ h
    have e1 : 40 + 2 * (n + 1) = (40 + 2 * n) + 2 := by omega
    have e2 : 1200 + 62 * (n + 1) = (1200 + 62 * n) + 62 := by omega
    rw [e1, e2]
    exact m_X12_bestFrom_F l E (rc := fx5 f_X12_bestFrom_F n) (fr := 40 + 2 * n) (lo := 1200 + 62 * n) (by omega) (by omega) ih p1 p2 p3 p4 σ rr τ h
theorem m_X12_bestFrom (l : Launch) (E : EV) (p1 : Int32) (p2 : Int32) (p3 : Int32) (p4 : Int32) (σ : Mem) (rr : Int64) (τ : Mem) (h : f_X12_bestFrom p1 p2 p3 p4 σ = some (rr, τ)) : ML TM l E yX12_bestFrom cX12_bestFrom 11 (some .long) 72 2192 [.ref (E.2.1 (0)), .int p1, .int p2, .int p3, .int p4] σ rr τ := md_X12_bestFrom l E 16 p1 p2 p3 p4 σ rr τ h
def f_X12_withx (p1 : Int32) (p2 : Int32) (p3 : Int32) (p4 : Int32) (p5 : Int32) (σ : Mem) : Option (Int64 × Mem) := f_X12_with f_X12_bestFrom p1 p2 p3 p4 p5 σ
theorem m_X12_withx (l : Launch) (E : EV) (p1 : Int32) (p2 : Int32) (p3 : Int32) (p4 : Int32) (p5 : Int32) (σ : Mem) (rr : Int64) (τ : Mem) (h : f_X12_withx p1 p2 p3 p4 p5 σ = some (rr, τ)) : ML TM l E yX12_with cX12_with 13 (some .long) 73 2222 [.ref (E.2.1 (0)), .int p1, .int p2, .int p3, .int p4, .int p5] σ rr τ := m_X12_with l E (rc := f_X12_bestFrom) (fr := 72) (lo := 2192) (by decide) (by decide) (m_X12_bestFrom l E) p1 p2 p3 p4 p5 σ rr τ h
def f_X12_bestSetting_98 (k9 : Int32 → Int32 → Int32 → Int32 → Int32 → Int32 → Int64 → Int32 → Mem → Option (Int32 × Mem)) (x1 : Int32) (x2 : Int32) (x3 : Int32) (x4 : Int32) (x5 : Int32) (x6 : Int32) (x7 : Int64) (x9 : Int32) (σ : Mem) : Option (Int32 × Mem) :=
  lt (x9 + (1 : Int32)) fun x9_13 =>
  k9 x1 x2 x3 x4 x5 x6 x7 x9_13 σ
def f_X12_bestSetting_96 (k9 : Int32 → Int32 → Int32 → Int32 → Int32 → Int32 → Int64 → Int32 → Mem → Option (Int32 × Mem)) (x1 : Int32) (x2 : Int32) (x3 : Int32) (x4 : Int32) (x5 : Int32) (x6 : Int32) (x9 : Int32) (s0 : Int64) (σ : Mem) : Option (Int32 × Mem) :=
  f_X12_bestSetting_98 k9 x1 x2 x3 x4 x5 x6 s0 x9 σ
def f_X12_bestSetting_82 (k9 : Int32 → Int32 → Int32 → Int32 → Int32 → Int32 → Int64 → Int32 → Mem → Option (Int32 × Mem)) (x1 : Int32) (x2 : Int32) (x3 : Int32) (x4 : Int32) (x5 : Int32) (x7 : Int64) (x9 : Int32) (x10 : Int64) (x12 : Int32) (s0 : Int32) (σ : Mem) : Option (Int32 × Mem) :=
  if x12 = 0 then
    (f_X12_bestSetting_96 k9 x1 x2 x3 x4 x5 s0 x9 x7 σ)
  else
    f_X12_bestSetting_96 k9 x1 x2 x3 x4 x5 s0 x9 x10 σ
def f_X12_bestSetting_68 (k9 : Int32 → Int32 → Int32 → Int32 → Int32 → Int32 → Int64 → Int32 → Mem → Option (Int32 × Mem)) (x1 : Int32) (x2 : Int32) (x3 : Int32) (x4 : Int32) (x5 : Int32) (x6 : Int32) (x7 : Int64) (x9 : Int32) (x10 : Int64) (s0 : Int32) (σ : Mem) : Option (Int32 × Mem) :=
  if s0 = 0 then
    (f_X12_bestSetting_82 k9 x1 x2 x3 x4 x5 x7 x9 x10 s0 x6 σ)
  else
    f_X12_bestSetting_82 k9 x1 x2 x3 x4 x5 x7 x9 x10 s0 x9 σ
def f_X12_bestSetting_63 (k9 : Int32 → Int32 → Int32 → Int32 → Int32 → Int32 → Int64 → Int32 → Mem → Option (Int32 × Mem)) (x1 : Int32) (x2 : Int32) (x3 : Int32) (x4 : Int32) (x5 : Int32) (x6 : Int32) (x7 : Int64) (x9 : Int32) (x10 : Int64) (σ : Mem) : Option (Int32 × Mem) :=
  f_X12_bestSetting_68 k9 x1 x2 x3 x4 x5 x6 x7 x9 x10 (1 : Int32) σ
def f_X12_bestSetting_36 (k9 : Int32 → Int32 → Int32 → Int32 → Int32 → Int32 → Int64 → Int32 → Mem → Option (Int32 × Mem)) (x1 : Int32) (x2 : Int32) (x3 : Int32) (x4 : Int32) (x5 : Int32) (x6 : Int32) (x7 : Int64) (x9 : Int32) (σ : Mem) : Option (Int32 × Mem) :=
  bd (f_X12_withx x1 x2 x9 x3 x4 σ) fun r_8 σ_9 =>
  if x6 = (-1 : Int32) then
    (f_X12_bestSetting_63 k9 x1 x2 x3 x4 x5 x6 x7 x9 r_8 σ_9)
  else
    if (lg_cmp r_8 x7) ≤ 0 then
      (f_X12_bestSetting_68 k9 x1 x2 x3 x4 x5 x6 x7 x9 r_8 (0 : Int32) σ_9)
    else
      f_X12_bestSetting_63 k9 x1 x2 x3 x4 x5 x6 x7 x9 r_8 σ_9
def f_X12_bestSetting_9 (k9 : Int32 → Int32 → Int32 → Int32 → Int32 → Int32 → Int64 → Int32 → Mem → Option (Int32 × Mem)) (x1 : Int32) (x2 : Int32) (x3 : Int32) (x4 : Int32) (x5 : Int32) (x6 : Int32) (x7 : Int64) (x9 : Int32) (σ : Mem) : Option (Int32 × Mem) :=
  if (8 : Int32) ≤ x9 then
    (if x6 = (-1 : Int32) then
      (some ((0 : Int32), σ))
    else
      some (x6, σ))
  else
    if x5 = (-1 : Int32) then
      (f_X12_bestSetting_36 k9 x1 x2 x3 x4 x5 x6 x7 x9 σ)
    else
      bd (f_X12_isSafe x9 x5 x3 x4 σ) fun r_4 σ_5 =>
      if r_4 = 0 then
        (f_X12_bestSetting_98 k9 x1 x2 x3 x4 x5 x6 x7 x9 σ_5)
      else
        f_X12_bestSetting_36 k9 x1 x2 x3 x4 x5 x6 x7 x9 σ_5
def f_X12_bestSetting (p1 : Int32) (p2 : Int32) (p3 : Int32) (p4 : Int32) (p5 : Int32) (σ : Mem) : Option (Int32 × Mem) :=
  fx9 (f_X12_bestSetting_9) FU p1 p2 p3 p4 p5 (-1 : Int32) (0 : Int64) (0 : Int32) σ
set_option maxHeartbeats 4000000 in
set_option maxRecDepth 100000 in
theorem w_X12_bestSetting_98 {p : Program} {l : Launch} {e : Env} {s : State} {m : MethodId} {args : Array Value} {below : List Frame} {meth : Method} {c : Code} {E : EV} {rr : Int32} {τ : Mem} (C : Cx E p s m args meth c cX12_bestSetting 13 (some .int) RX12) (k9 : Int32 → Int32 → Int32 → Int32 → Int32 → Int32 → Int64 → Int32 → Mem → Option (Int32 × Mem)) (hk9 : ∀ (x1 : Int32) (x2 : Int32) (x3 : Int32) (x4 : Int32) (x5 : Int32) (x6 : Int32) (x7 : Int64) (x9 : Int32) (σ : Mem) (H : Heap) (locs : List Loc) (ls : Array Slot) (hw : Wd TM E σ s H locs) (hl : lv_has ls 13 [(0, .ref (E.2.1 (0))), (1, .int x1), (2, .int x2), (3, .int x3), (4, .int x4), (5, .int x5), (6, .int x6), (7, .long x7), (9, .int x9)]) (h : k9 x1 x2 x3 x4 x5 x6 x7 x9 σ = some (rr, τ)), W p l e { frames := 74, cells := 0, slots := 0, locals := 2254 } s m args below meth c H locs 0 0 (MQ below (QI TM E rr τ) args s 0 0 E.2.2.1) (F0 m 9 ls [])) : ∀ (x1 : Int32) (x2 : Int32) (x3 : Int32) (x4 : Int32) (x5 : Int32) (x6 : Int32) (x7 : Int64) (x9 : Int32) (σ : Mem) (H : Heap) (locs : List Loc) (ls : Array Slot) (hw : Wd TM E σ s H locs) (hl : lv_has ls 13 [(0, .ref (E.2.1 (0))), (1, .int x1), (2, .int x2), (3, .int x3), (4, .int x4), (5, .int x5), (6, .int x6), (7, .long x7), (9, .int x9)]) (h : f_X12_bestSetting_98 k9 x1 x2 x3 x4 x5 x6 x7 x9 σ = some (rr, τ)), W p l e { frames := 74, cells := 0, slots := 0, locals := 2254 } s m args below meth c H locs 0 0 (MQ below (QI TM E rr τ) args s 0 0 E.2.2.1) (F0 m 98 ls []) := by
  obtain ⟨hx, hb, hml, hown, hts, hK, hSt, hlk, hr⟩ := id C
  intro x1 x2 x3 x4 x5 x6 x7 x9 σ H locs ls hw hl h
  unfold f_X12_bestSetting_98 at h
  obtain ⟨x9_13, ex9_13, h⟩ := lt_at h
  refine lv_iinc (v := x9_13) (lv' := [(9, .int x9_13), (0, .ref (E.2.1 (0))), (1, .int x1), (2, .int x2), (3, .int x3), (4, .int x4), (5, .int x5), (6, .int x6), (7, .long x7)]) hx hb dX12_bestSetting_98 hl (k := 8) rfl (by rw [ex9_13]; rfl) (by decide) rfl (fun ls hl => ?_)
  refine lv_goto (tgt := 9) hx hb dX12_bestSetting_101 (by decide) ?_
  exact hk9 _ _ _ _ _ _ _ _ _ _ _ _ hw (lv_sub hl [1, 2, 3, 4, 5, 6, 7, 8, 0] rfl) h
set_option maxHeartbeats 4000000 in
set_option maxRecDepth 100000 in
theorem w_X12_bestSetting_96 {p : Program} {l : Launch} {e : Env} {s : State} {m : MethodId} {args : Array Value} {below : List Frame} {meth : Method} {c : Code} {E : EV} {rr : Int32} {τ : Mem} (C : Cx E p s m args meth c cX12_bestSetting 13 (some .int) RX12) (k9 : Int32 → Int32 → Int32 → Int32 → Int32 → Int32 → Int64 → Int32 → Mem → Option (Int32 × Mem)) (hk9 : ∀ (x1 : Int32) (x2 : Int32) (x3 : Int32) (x4 : Int32) (x5 : Int32) (x6 : Int32) (x7 : Int64) (x9 : Int32) (σ : Mem) (H : Heap) (locs : List Loc) (ls : Array Slot) (hw : Wd TM E σ s H locs) (hl : lv_has ls 13 [(0, .ref (E.2.1 (0))), (1, .int x1), (2, .int x2), (3, .int x3), (4, .int x4), (5, .int x5), (6, .int x6), (7, .long x7), (9, .int x9)]) (h : k9 x1 x2 x3 x4 x5 x6 x7 x9 σ = some (rr, τ)), W p l e { frames := 74, cells := 0, slots := 0, locals := 2254 } s m args below meth c H locs 0 0 (MQ below (QI TM E rr τ) args s 0 0 E.2.2.1) (F0 m 9 ls [])) : ∀ (x1 : Int32) (x2 : Int32) (x3 : Int32) (x4 : Int32) (x5 : Int32) (x6 : Int32) (x9 : Int32) (s0 : Int64) (σ : Mem) (H : Heap) (locs : List Loc) (ls : Array Slot) (hw : Wd TM E σ s H locs) (hl : lv_has ls 13 [(0, .ref (E.2.1 (0))), (1, .int x1), (2, .int x2), (3, .int x3), (4, .int x4), (5, .int x5), (6, .int x6), (9, .int x9)]) (h : f_X12_bestSetting_96 k9 x1 x2 x3 x4 x5 x6 x9 s0 σ = some (rr, τ)), W p l e { frames := 74, cells := 0, slots := 0, locals := 2254 } s m args below meth c H locs 0 0 (MQ below (QI TM E rr τ) args s 0 0 E.2.2.1) (F0 m 96 ls [.long s0]) := by
  obtain ⟨hx, hb, hml, hown, hts, hK, hSt, hlk, hr⟩ := id C
  intro x1 x2 x3 x4 x5 x6 x9 s0 σ H locs ls hw hl h
  unfold f_X12_bestSetting_96 at h
  refine lv_lstore (lv' := [(7, .long s0), (0, .ref (E.2.1 (0))), (1, .int x1), (2, .int x2), (3, .int x3), (4, .int x4), (5, .int x5), (6, .int x6), (9, .int x9)]) hx hb dX12_bestSetting_96 hl (by decide) rfl (fun ls hl => ?_)
  exact w_X12_bestSetting_98 C _ hk9 _ _ _ _ _ _ _ _ _ _ _ _ hw (lv_sub hl [1, 2, 3, 4, 5, 6, 7, 0, 8] rfl) h
set_option maxHeartbeats 4000000 in
set_option maxRecDepth 100000 in
theorem w_X12_bestSetting_82 {p : Program} {l : Launch} {e : Env} {s : State} {m : MethodId} {args : Array Value} {below : List Frame} {meth : Method} {c : Code} {E : EV} {rr : Int32} {τ : Mem} (C : Cx E p s m args meth c cX12_bestSetting 13 (some .int) RX12) (k9 : Int32 → Int32 → Int32 → Int32 → Int32 → Int32 → Int64 → Int32 → Mem → Option (Int32 × Mem)) (hk9 : ∀ (x1 : Int32) (x2 : Int32) (x3 : Int32) (x4 : Int32) (x5 : Int32) (x6 : Int32) (x7 : Int64) (x9 : Int32) (σ : Mem) (H : Heap) (locs : List Loc) (ls : Array Slot) (hw : Wd TM E σ s H locs) (hl : lv_has ls 13 [(0, .ref (E.2.1 (0))), (1, .int x1), (2, .int x2), (3, .int x3), (4, .int x4), (5, .int x5), (6, .int x6), (7, .long x7), (9, .int x9)]) (h : k9 x1 x2 x3 x4 x5 x6 x7 x9 σ = some (rr, τ)), W p l e { frames := 74, cells := 0, slots := 0, locals := 2254 } s m args below meth c H locs 0 0 (MQ below (QI TM E rr τ) args s 0 0 E.2.2.1) (F0 m 9 ls [])) : ∀ (x1 : Int32) (x2 : Int32) (x3 : Int32) (x4 : Int32) (x5 : Int32) (x7 : Int64) (x9 : Int32) (x10 : Int64) (x12 : Int32) (s0 : Int32) (σ : Mem) (H : Heap) (locs : List Loc) (ls : Array Slot) (hw : Wd TM E σ s H locs) (hl : lv_has ls 13 [(0, .ref (E.2.1 (0))), (1, .int x1), (2, .int x2), (3, .int x3), (4, .int x4), (5, .int x5), (7, .long x7), (9, .int x9), (10, .long x10), (12, .int x12)]) (h : f_X12_bestSetting_82 k9 x1 x2 x3 x4 x5 x7 x9 x10 x12 s0 σ = some (rr, τ)), W p l e { frames := 74, cells := 0, slots := 0, locals := 2254 } s m args below meth c H locs 0 0 (MQ below (QI TM E rr τ) args s 0 0 E.2.2.1) (F0 m 82 ls [.int s0]) := by
  obtain ⟨hx, hb, hml, hown, hts, hK, hSt, hlk, hr⟩ := id C
  intro x1 x2 x3 x4 x5 x7 x9 x10 x12 s0 σ H locs ls hw hl h
  unfold f_X12_bestSetting_82 at h
  refine lv_istore (lv' := [(6, .int s0), (0, .ref (E.2.1 (0))), (1, .int x1), (2, .int x2), (3, .int x3), (4, .int x4), (5, .int x5), (7, .long x7), (9, .int x9), (10, .long x10), (12, .int x12)]) hx hb dX12_bestSetting_82 hl (by decide) rfl (fun ls hl => ?_)
  refine lv_iload hx hb dX12_bestSetting_84 (lv_at hl 10 rfl) ?_
  refine lv_if_eq (tgt := 94) hx hb dX12_bestSetting_86 (by decide) (fun c_15 => ?_) (fun c_15 => ?_)
  · replace h := it_at h c_15
    refine lv_lload hx hb dX12_bestSetting_94 (lv_at hl 7 rfl) ?_
    exact w_X12_bestSetting_96 C _ hk9 _ _ _ _ _ _ _ _ _ _ _ _ hw (lv_sub hl [1, 2, 3, 4, 5, 6, 0, 8] rfl) h
  · replace h := ie_at h c_15
    refine lv_lload hx hb dX12_bestSetting_89 (lv_at hl 9 rfl) ?_
    refine lv_goto (tgt := 96) hx hb dX12_bestSetting_91 (by decide) ?_
    exact w_X12_bestSetting_96 C _ hk9 _ _ _ _ _ _ _ _ _ _ _ _ hw (lv_sub hl [1, 2, 3, 4, 5, 6, 0, 8] rfl) h
set_option maxHeartbeats 4000000 in
set_option maxRecDepth 100000 in
theorem w_X12_bestSetting_68 {p : Program} {l : Launch} {e : Env} {s : State} {m : MethodId} {args : Array Value} {below : List Frame} {meth : Method} {c : Code} {E : EV} {rr : Int32} {τ : Mem} (C : Cx E p s m args meth c cX12_bestSetting 13 (some .int) RX12) (k9 : Int32 → Int32 → Int32 → Int32 → Int32 → Int32 → Int64 → Int32 → Mem → Option (Int32 × Mem)) (hk9 : ∀ (x1 : Int32) (x2 : Int32) (x3 : Int32) (x4 : Int32) (x5 : Int32) (x6 : Int32) (x7 : Int64) (x9 : Int32) (σ : Mem) (H : Heap) (locs : List Loc) (ls : Array Slot) (hw : Wd TM E σ s H locs) (hl : lv_has ls 13 [(0, .ref (E.2.1 (0))), (1, .int x1), (2, .int x2), (3, .int x3), (4, .int x4), (5, .int x5), (6, .int x6), (7, .long x7), (9, .int x9)]) (h : k9 x1 x2 x3 x4 x5 x6 x7 x9 σ = some (rr, τ)), W p l e { frames := 74, cells := 0, slots := 0, locals := 2254 } s m args below meth c H locs 0 0 (MQ below (QI TM E rr τ) args s 0 0 E.2.2.1) (F0 m 9 ls [])) : ∀ (x1 : Int32) (x2 : Int32) (x3 : Int32) (x4 : Int32) (x5 : Int32) (x6 : Int32) (x7 : Int64) (x9 : Int32) (x10 : Int64) (s0 : Int32) (σ : Mem) (H : Heap) (locs : List Loc) (ls : Array Slot) (hw : Wd TM E σ s H locs) (hl : lv_has ls 13 [(0, .ref (E.2.1 (0))), (1, .int x1), (2, .int x2), (3, .int x3), (4, .int x4), (5, .int x5), (6, .int x6), (7, .long x7), (9, .int x9), (10, .long x10)]) (h : f_X12_bestSetting_68 k9 x1 x2 x3 x4 x5 x6 x7 x9 x10 s0 σ = some (rr, τ)), W p l e { frames := 74, cells := 0, slots := 0, locals := 2254 } s m args below meth c H locs 0 0 (MQ below (QI TM E rr τ) args s 0 0 E.2.2.1) (F0 m 68 ls [.int s0]) := by
  obtain ⟨hx, hb, hml, hown, hts, hK, hSt, hlk, hr⟩ := id C
  intro x1 x2 x3 x4 x5 x6 x7 x9 x10 s0 σ H locs ls hw hl h
  unfold f_X12_bestSetting_68 at h
  refine lv_istore (lv' := [(12, .int s0), (0, .ref (E.2.1 (0))), (1, .int x1), (2, .int x2), (3, .int x3), (4, .int x4), (5, .int x5), (6, .int x6), (7, .long x7), (9, .int x9), (10, .long x10)]) hx hb dX12_bestSetting_68 hl (by decide) rfl (fun ls hl => ?_)
  refine lv_iload hx hb dX12_bestSetting_70 (lv_at hl 0 rfl) ?_
  refine lv_if_eq (tgt := 80) hx hb dX12_bestSetting_72 (by decide) (fun c_14 => ?_) (fun c_14 => ?_)
  · replace h := it_at h c_14
    refine lv_iload hx hb dX12_bestSetting_80 (lv_at hl 7 rfl) ?_
    exact w_X12_bestSetting_82 C _ hk9 _ _ _ _ _ _ _ _ _ _ _ _ _ _ hw (lv_sub hl [1, 2, 3, 4, 5, 6, 8, 9, 10, 0] rfl) h
  · replace h := ie_at h c_14
    refine lv_iload hx hb dX12_bestSetting_75 (lv_at hl 9 rfl) ?_
    refine lv_goto (tgt := 82) hx hb dX12_bestSetting_77 (by decide) ?_
    exact w_X12_bestSetting_82 C _ hk9 _ _ _ _ _ _ _ _ _ _ _ _ _ _ hw (lv_sub hl [1, 2, 3, 4, 5, 6, 8, 9, 10, 0] rfl) h
set_option maxHeartbeats 4000000 in
set_option maxRecDepth 100000 in
theorem w_X12_bestSetting_63 {p : Program} {l : Launch} {e : Env} {s : State} {m : MethodId} {args : Array Value} {below : List Frame} {meth : Method} {c : Code} {E : EV} {rr : Int32} {τ : Mem} (C : Cx E p s m args meth c cX12_bestSetting 13 (some .int) RX12) (k9 : Int32 → Int32 → Int32 → Int32 → Int32 → Int32 → Int64 → Int32 → Mem → Option (Int32 × Mem)) (hk9 : ∀ (x1 : Int32) (x2 : Int32) (x3 : Int32) (x4 : Int32) (x5 : Int32) (x6 : Int32) (x7 : Int64) (x9 : Int32) (σ : Mem) (H : Heap) (locs : List Loc) (ls : Array Slot) (hw : Wd TM E σ s H locs) (hl : lv_has ls 13 [(0, .ref (E.2.1 (0))), (1, .int x1), (2, .int x2), (3, .int x3), (4, .int x4), (5, .int x5), (6, .int x6), (7, .long x7), (9, .int x9)]) (h : k9 x1 x2 x3 x4 x5 x6 x7 x9 σ = some (rr, τ)), W p l e { frames := 74, cells := 0, slots := 0, locals := 2254 } s m args below meth c H locs 0 0 (MQ below (QI TM E rr τ) args s 0 0 E.2.2.1) (F0 m 9 ls [])) : ∀ (x1 : Int32) (x2 : Int32) (x3 : Int32) (x4 : Int32) (x5 : Int32) (x6 : Int32) (x7 : Int64) (x9 : Int32) (x10 : Int64) (σ : Mem) (H : Heap) (locs : List Loc) (ls : Array Slot) (hw : Wd TM E σ s H locs) (hl : lv_has ls 13 [(0, .ref (E.2.1 (0))), (1, .int x1), (2, .int x2), (3, .int x3), (4, .int x4), (5, .int x5), (6, .int x6), (7, .long x7), (9, .int x9), (10, .long x10)]) (h : f_X12_bestSetting_63 k9 x1 x2 x3 x4 x5 x6 x7 x9 x10 σ = some (rr, τ)), W p l e { frames := 74, cells := 0, slots := 0, locals := 2254 } s m args below meth c H locs 0 0 (MQ below (QI TM E rr τ) args s 0 0 E.2.2.1) (F0 m 63 ls []) := by
  obtain ⟨hx, hb, hml, hown, hts, hK, hSt, hlk, hr⟩ := id C
  intro x1 x2 x3 x4 x5 x6 x7 x9 x10 σ H locs ls hw hl h
  unfold f_X12_bestSetting_63 at h
  refine lv_iconst (v := 1) hx hb dX12_bestSetting_63 (by decide) ?_
  refine lv_goto (tgt := 68) hx hb dX12_bestSetting_64 (by decide) ?_
  exact w_X12_bestSetting_68 C _ hk9 _ _ _ _ _ _ _ _ _ _ _ _ _ _ hw (lv_sub hl [0, 1, 2, 3, 4, 5, 6, 7, 8, 9] rfl) h
set_option maxHeartbeats 4000000 in
set_option maxRecDepth 100000 in
theorem w_X12_bestSetting_36 {p : Program} {l : Launch} {e : Env} {s : State} {m : MethodId} {args : Array Value} {below : List Frame} {meth : Method} {c : Code} {E : EV} {rr : Int32} {τ : Mem} (C : Cx E p s m args meth c cX12_bestSetting 13 (some .int) RX12) (k9 : Int32 → Int32 → Int32 → Int32 → Int32 → Int32 → Int64 → Int32 → Mem → Option (Int32 × Mem)) (hk9 : ∀ (x1 : Int32) (x2 : Int32) (x3 : Int32) (x4 : Int32) (x5 : Int32) (x6 : Int32) (x7 : Int64) (x9 : Int32) (σ : Mem) (H : Heap) (locs : List Loc) (ls : Array Slot) (hw : Wd TM E σ s H locs) (hl : lv_has ls 13 [(0, .ref (E.2.1 (0))), (1, .int x1), (2, .int x2), (3, .int x3), (4, .int x4), (5, .int x5), (6, .int x6), (7, .long x7), (9, .int x9)]) (h : k9 x1 x2 x3 x4 x5 x6 x7 x9 σ = some (rr, τ)), W p l e { frames := 74, cells := 0, slots := 0, locals := 2254 } s m args below meth c H locs 0 0 (MQ below (QI TM E rr τ) args s 0 0 E.2.2.1) (F0 m 9 ls [])) : ∀ (x1 : Int32) (x2 : Int32) (x3 : Int32) (x4 : Int32) (x5 : Int32) (x6 : Int32) (x7 : Int64) (x9 : Int32) (σ : Mem) (H : Heap) (locs : List Loc) (ls : Array Slot) (hw : Wd TM E σ s H locs) (hl : lv_has ls 13 [(0, .ref (E.2.1 (0))), (1, .int x1), (2, .int x2), (3, .int x3), (4, .int x4), (5, .int x5), (6, .int x6), (7, .long x7), (9, .int x9)]) (h : f_X12_bestSetting_36 k9 x1 x2 x3 x4 x5 x6 x7 x9 σ = some (rr, τ)), W p l e { frames := 74, cells := 0, slots := 0, locals := 2254 } s m args below meth c H locs 0 0 (MQ below (QI TM E rr τ) args s 0 0 E.2.2.1) (F0 m 36 ls []) := by
  obtain ⟨hx, hb, hml, hown, hts, hK, hSt, hlk, hr⟩ := id C
  intro x1 x2 x3 x4 x5 x6 x7 x9 σ H locs ls hw hl h
  unfold f_X12_bestSetting_36 at h
  refine lv_aload_n hx hb dX12_bestSetting_36 rfl (lv_at hl 0 rfl) ?_
  refine lv_iload_n hx hb dX12_bestSetting_37 rfl (lv_at hl 1 rfl) ?_
  refine lv_iload_n hx hb dX12_bestSetting_38 rfl (lv_at hl 2 rfl) ?_
  refine lv_iload hx hb dX12_bestSetting_39 (lv_at hl 8 rfl) ?_
  refine lv_iload_n hx hb dX12_bestSetting_41 rfl (lv_at hl 3 rfl) ?_
  refine lv_iload hx hb dX12_bestSetting_42 (lv_at hl 4 rfl) ?_
  obtain ⟨r_8, σ_9, h_10, h⟩ := bd_at h
  refine q_afterL hw (q_runV C hw hl.1 (As := [.int x1, .int x2, .int x9, .int x3, .int x4]) (rest := []) (m_X12_withx l E x1 x2 x9 x3 x4 σ r_8 σ_9 h_10) yq_X12_with tM_0 rfl rfl kw_1299 ⟨Nat.le_of_ble_eq_true rfl, Nat.le_of_ble_eq_true rfl⟩ rfl (Nat.le_of_ble_eq_true rfl) ⟨Nat.zero_le _, Nat.zero_le _⟩ dX12_bestSetting_44) (fun H locs hw => ?_)
  refine lv_lstore (lv' := [(10, .long r_8), (0, .ref (E.2.1 (0))), (1, .int x1), (2, .int x2), (3, .int x3), (4, .int x4), (5, .int x5), (6, .int x6), (7, .long x7), (9, .int x9)]) hx hb dX12_bestSetting_47 hl (by decide) rfl (fun ls hl => ?_)
  refine lv_iload hx hb dX12_bestSetting_49 (lv_at hl 7 rfl) ?_
  refine lv_iconst (v := (-1)) hx hb dX12_bestSetting_51 (by decide) ?_
  refine lv_icmp_eq (tgt := 63) hx hb dX12_bestSetting_52 (by decide) (fun c_11 => ?_) (fun c_11 => ?_)
  · replace h := it_at h c_11
    exact w_X12_bestSetting_63 C _ hk9 _ _ _ _ _ _ _ _ _ _ _ _ _ hw (lv_sub hl [1, 2, 3, 4, 5, 6, 7, 8, 9, 0] rfl) h
  · replace h := ie_at h c_11
    refine lv_lload hx hb dX12_bestSetting_55 (lv_at hl 0 rfl) ?_
    refine lv_lload hx hb dX12_bestSetting_57 (lv_at hl 8 rfl) ?_
    refine W.lcmp hx hb dX12_bestSetting_59 ?_
    refine lv_if_le (tgt := 67) hx hb dX12_bestSetting_60 (by decide) (fun c_12 => ?_) (fun c_12 => ?_)
    · replace h := it_at h c_12
      refine lv_iconst (v := 0) hx hb dX12_bestSetting_67 (by decide) ?_
      exact w_X12_bestSetting_68 C _ hk9 _ _ _ _ _ _ _ _ _ _ _ _ _ _ hw (lv_sub hl [1, 2, 3, 4, 5, 6, 7, 8, 9, 0] rfl) h
    · replace h := ie_at h c_12
      exact w_X12_bestSetting_63 C _ hk9 _ _ _ _ _ _ _ _ _ _ _ _ _ hw (lv_sub hl [1, 2, 3, 4, 5, 6, 7, 8, 9, 0] rfl) h
set_option maxHeartbeats 4000000 in
set_option maxRecDepth 100000 in
theorem w_X12_bestSetting_9 {p : Program} {l : Launch} {e : Env} {s : State} {m : MethodId} {args : Array Value} {below : List Frame} {meth : Method} {c : Code} {E : EV} {rr : Int32} {τ : Mem} (C : Cx E p s m args meth c cX12_bestSetting 13 (some .int) RX12) : ∀ (n : Nat) (x1 : Int32) (x2 : Int32) (x3 : Int32) (x4 : Int32) (x5 : Int32) (x6 : Int32) (x7 : Int64) (x9 : Int32) (σ : Mem) (H : Heap) (locs : List Loc) (ls : Array Slot) (hw : Wd TM E σ s H locs) (hl : lv_has ls 13 [(0, .ref (E.2.1 (0))), (1, .int x1), (2, .int x2), (3, .int x3), (4, .int x4), (5, .int x5), (6, .int x6), (7, .long x7), (9, .int x9)]) (h : fx9 (f_X12_bestSetting_9) n x1 x2 x3 x4 x5 x6 x7 x9 σ = some (rr, τ)), W p l e { frames := 74, cells := 0, slots := 0, locals := 2254 } s m args below meth c H locs 0 0 (MQ below (QI TM E rr τ) args s 0 0 E.2.2.1) (F0 m 9 ls []) := by
  obtain ⟨hx, hb, hml, hown, hts, hK, hSt, hlk, hr⟩ := id C
  intro n
  induction n with
  | zero =>
    intro x1 x2 x3 x4 x5 x6 x7 x9 σ H locs ls hw hl h
    have h : none = some (rr, τ) := h
    cases h
  | succ n hk9 =>
    intro x1 x2 x3 x4 x5 x6 x7 x9 σ H locs ls hw hl h
    replace h : f_X12_bestSetting_9 (fx9 (f_X12_bestSetting_9) n) x1 x2 x3 x4 x5 x6 x7 x9 σ = some (rr, τ) := h
    unfold f_X12_bestSetting_9 at h
    refine lv_iload hx hb dX12_bestSetting_9 (lv_at hl 8 rfl) ?_
    refine lv_bipush (v := 8) hx hb dX12_bestSetting_11 (by decide) ?_
    refine lv_icmp_ge (tgt := 104) hx hb dX12_bestSetting_13 (by decide) (fun c_1 => ?_) (fun c_1 => ?_)
    · replace h := it_at h c_1
      refine lv_iload hx hb dX12_bestSetting_104 (lv_at hl 6 rfl) ?_
      refine lv_iconst (v := (-1)) hx hb dX12_bestSetting_106 (by decide) ?_
      refine lv_icmp_ne (tgt := 114) hx hb dX12_bestSetting_107 (by decide) (fun c_2 => ?_) (fun c_2 => ?_)
      · replace h := ie_at h c_2
        refine lv_iload hx hb dX12_bestSetting_114 (lv_at hl 6 rfl) ?_
        obtain ⟨rfl, rfl⟩ := ret_at h
        exact q_iret C hw dX12_bestSetting_116
      · replace h := it_at h c_2
        refine lv_iconst (v := 0) hx hb dX12_bestSetting_110 (by decide) ?_
        refine lv_goto (tgt := 116) hx hb dX12_bestSetting_111 (by decide) ?_
        obtain ⟨rfl, rfl⟩ := ret_at h
        exact q_iret C hw dX12_bestSetting_116
    · replace h := ie_at h c_1
      refine lv_iload hx hb dX12_bestSetting_16 (lv_at hl 5 rfl) ?_
      refine lv_iconst (v := (-1)) hx hb dX12_bestSetting_18 (by decide) ?_
      refine lv_icmp_eq (tgt := 36) hx hb dX12_bestSetting_19 (by decide) (fun c_3 => ?_) (fun c_3 => ?_)
      · replace h := it_at h c_3
        exact w_X12_bestSetting_36 C _ hk9 _ _ _ _ _ _ _ _ _ _ _ _ hw (lv_sub hl [0, 1, 2, 3, 4, 5, 6, 7, 8] rfl) h
      · replace h := ie_at h c_3
        refine lv_aload_n hx hb dX12_bestSetting_22 rfl (lv_at hl 0 rfl) ?_
        refine lv_iload hx hb dX12_bestSetting_23 (lv_at hl 8 rfl) ?_
        refine lv_iload hx hb dX12_bestSetting_25 (lv_at hl 5 rfl) ?_
        refine lv_iload_n hx hb dX12_bestSetting_27 rfl (lv_at hl 3 rfl) ?_
        refine lv_iload hx hb dX12_bestSetting_28 (lv_at hl 4 rfl) ?_
        obtain ⟨r_4, σ_5, h_6, h⟩ := bd_at h
        refine q_afterI hw (q_runV C hw hl.1 (As := [.int x9, .int x5, .int x3, .int x4]) (rest := []) (m_X12_isSafe l E x9 x5 x3 x4 σ r_4 σ_5 h_6) yq_X12_isSafe tM_0 rfl rfl kw_1295 ⟨Nat.le_of_ble_eq_true rfl, Nat.le_of_ble_eq_true rfl⟩ rfl (Nat.le_of_ble_eq_true rfl) ⟨Nat.zero_le _, Nat.zero_le _⟩ dX12_bestSetting_30) (fun H locs hw => ?_)
        refine lv_if_eq (tgt := 98) hx hb dX12_bestSetting_33 (by decide) (fun c_7 => ?_) (fun c_7 => ?_)
        · replace h := it_at h c_7
          exact w_X12_bestSetting_98 C _ hk9 _ _ _ _ _ _ _ _ _ _ _ _ hw (lv_sub hl [0, 1, 2, 3, 4, 5, 6, 7, 8] rfl) h
        · replace h := ie_at h c_7
          exact w_X12_bestSetting_36 C _ hk9 _ _ _ _ _ _ _ _ _ _ _ _ hw (lv_sub hl [0, 1, 2, 3, 4, 5, 6, 7, 8] rfl) h
set_option maxHeartbeats 4000000 in
set_option maxRecDepth 100000 in
theorem m_X12_bestSetting (l : Launch) (E : EV) (p1 : Int32) (p2 : Int32) (p3 : Int32) (p4 : Int32) (p5 : Int32) (σ : Mem) (rr : Int32) (τ : Mem) (h : f_X12_bestSetting p1 p2 p3 p4 p5 σ = some (rr, τ)) : MI TM l E yX12_bestSetting cX12_bestSetting 13 (some .int) 74 2254 [.ref (E.2.1 (0)), .int p1, .int p2, .int p3, .int p4, .int p5] σ rr τ := by
  refine mt_start RX12 (by decide +kernel) rfl (Nat.le_of_ble_eq_true rfl) (fun p e s m args below meth c ls C hw hl => ?_)
  replace hl : lv_has ls 13 [(0, .ref (E.2.1 (0))), (1, .int p1), (2, .int p2), (3, .int p3), (4, .int p4), (5, .int p5)] := hl
  obtain ⟨hx, hb, hml, hown, hts, hK, hSt, hlk, hr⟩ := id C
  unfold f_X12_bestSetting at h
  refine lv_iconst (v := (-1)) hx hb dX12_bestSetting_0 (by decide) ?_
  refine lv_istore (lv' := [(6, .int (-1 : Int32)), (0, .ref (E.2.1 (0))), (1, .int p1), (2, .int p2), (3, .int p3), (4, .int p4), (5, .int p5)]) hx hb dX12_bestSetting_1 hl (by decide) rfl (fun ls hl => ?_)
  refine lv_lconst (v := 0) hx hb dX12_bestSetting_3 (by decide) ?_
  refine lv_lstore (lv' := [(7, .long (0 : Int64)), (6, .int (-1 : Int32)), (0, .ref (E.2.1 (0))), (1, .int p1), (2, .int p2), (3, .int p3), (4, .int p4), (5, .int p5)]) hx hb dX12_bestSetting_4 hl (by decide) rfl (fun ls hl => ?_)
  refine lv_iconst (v := 0) hx hb dX12_bestSetting_6 (by decide) ?_
  refine lv_istore (lv' := [(9, .int (0 : Int32)), (7, .long (0 : Int64)), (6, .int (-1 : Int32)), (0, .ref (E.2.1 (0))), (1, .int p1), (2, .int p2), (3, .int p3), (4, .int p4), (5, .int p5)]) hx hb dX12_bestSetting_7 hl (by decide) rfl (fun ls hl => ?_)
  exact w_X12_bestSetting_9 C _ _ _ _ _ _ _ _ _ _ _ _ _ hw (lv_sub hl [3, 4, 5, 6, 7, 8, 2, 1, 0] rfl) h
def f_X12_settingOf_12 (x1 : Int32) (x2 : Int32) (x3 : Int32) (x4 : Int32) (x6 : Int32) (x7 : Int32) (x8 : Int32) (x9 : Int32) (s0 : Int32) (σ : Mem) : Option (Int32 × Mem) :=
  if x1 = (1 : Int32) then
    (some (x2, σ))
  else
  if x1 = (2 : Int32) then
    (bd (f_X12_watched x7 (irm x2 (2 : Int32)) x8 x9 σ) fun r_4 σ_5 =>
    some (r_4, σ_5))
  else
  if x1 = (3 : Int32) then
    (bd (f_X12_watched x6 (-1 : Int32) x8 x9 σ) fun r_8 σ_9 =>
    some (r_8, σ_9))
  else
  if x1 = (4 : Int32) then
    (bd (f_X12_bestSetting s0 x6 x8 x9 (-1 : Int32) σ) fun r_12 σ_13 =>
    some (r_12, σ_13))
  else
  if x1 = (5 : Int32) then
    (bd (f_X12_bestSetting s0 x6 x8 x9 x2 σ) fun r_16 σ_17 =>
    some (r_16, σ_17))
  else
  if x1 = (6 : Int32) then
    (gd (ib ((907 : Int32) + x3) 1055) <|
    if (gI σ 1 ((907 : Int32) + x3).toNatClampNeg) = 0 then
      (some (x2, σ))
    else
      gd (ib ((907 : Int32) + x3) 1055) <|
      gd (decide (¬ (gI σ 1 ((907 : Int32) + x3).toNatClampNeg) = 0)) <|
      gd (ib (((917 : Int32) + ((10 : Int32) * x3)) + (irm x4 (gI σ 1 ((907 : Int32) + x3).toNatClampNeg))) 1055) <|
      some (gI σ 1 (((917 : Int32) + ((10 : Int32) * x3)) + (irm x4 (gI σ 1 ((907 : Int32) + x3).toNatClampNeg))).toNatClampNeg, σ))
  else
  some ((0 : Int32), σ)
def f_X12_settingOf (p1 : Int32) (p2 : Int32) (p3 : Int32) (p4 : Int32) (p5 : Int32) (p6 : Int32) (p7 : Int32) (p8 : Int32) (p9 : Int32) (σ : Mem) : Option (Int32 × Mem) :=
  if p5 ≤ (3 : Int32) then
    (f_X12_settingOf_12 p1 p2 p3 p4 p6 p7 p8 p9 p5 σ)
  else
    f_X12_settingOf_12 p1 p2 p3 p4 p6 p7 p8 p9 (3 : Int32) σ
set_option maxHeartbeats 4000000 in
set_option maxRecDepth 100000 in
theorem w_X12_settingOf_12 {p : Program} {l : Launch} {e : Env} {s : State} {m : MethodId} {args : Array Value} {below : List Frame} {meth : Method} {c : Code} {E : EV} {rr : Int32} {τ : Mem} (C : Cx E p s m args meth c cX12_settingOf 11 (some .int) RX12) : ∀ (x1 : Int32) (x2 : Int32) (x3 : Int32) (x4 : Int32) (x6 : Int32) (x7 : Int32) (x8 : Int32) (x9 : Int32) (s0 : Int32) (σ : Mem) (H : Heap) (locs : List Loc) (ls : Array Slot) (hw : Wd TM E σ s H locs) (hl : lv_has ls 11 [(0, .ref (E.2.1 (0))), (1, .int x1), (2, .int x2), (3, .int x3), (4, .int x4), (6, .int x6), (7, .int x7), (8, .int x8), (9, .int x9)]) (h : f_X12_settingOf_12 x1 x2 x3 x4 x6 x7 x8 x9 s0 σ = some (rr, τ)), W p l e { frames := 75, cells := 0, slots := 0, locals := 2286 } s m args below meth c H locs 0 0 (MQ below (QI TM E rr τ) args s 0 0 E.2.2.1) (F0 m 12 ls [.int s0]) := by
  obtain ⟨hx, hb, hml, hown, hts, hK, hSt, hlk, hr⟩ := id C
  intro x1 x2 x3 x4 x6 x7 x8 x9 s0 σ H locs ls hw hl h
  unfold f_X12_settingOf_12 at h
  refine lv_istore (lv' := [(10, .int s0), (0, .ref (E.2.1 (0))), (1, .int x1), (2, .int x2), (3, .int x3), (4, .int x4), (6, .int x6), (7, .int x7), (8, .int x8), (9, .int x9)]) hx hb dX12_settingOf_12 hl (by decide) rfl (fun ls hl => ?_)
  refine lv_iload_n hx hb dX12_settingOf_14 rfl (lv_at hl 2 rfl) ?_
  by_cases c_2 : x1 = (1 : Int32)
  · replace h := it_at h c_2
    refine lv_tableIn (off := 37) (tgt := 52) hx hb dX12_settingOf_15 (by rw [c_2]; decide) (by rw [c_2]; decide) (by rw [c_2]; rfl) (by decide) ?_
    refine lv_iload_n hx hb dX12_settingOf_52 rfl (lv_at hl 3 rfl) ?_
    obtain ⟨rfl, rfl⟩ := ret_at h
    exact q_iret C hw dX12_settingOf_53
  replace h := ie_at h c_2
  by_cases c_3 : x1 = (2 : Int32)
  · replace h := it_at h c_3
    refine lv_tableIn (off := 39) (tgt := 54) hx hb dX12_settingOf_15 (by rw [c_3]; decide) (by rw [c_3]; decide) (by rw [c_3]; rfl) (by decide) ?_
    refine lv_aload_n hx hb dX12_settingOf_54 rfl (lv_at hl 1 rfl) ?_
    refine lv_iload hx hb dX12_settingOf_55 (lv_at hl 7 rfl) ?_
    refine lv_iload_n hx hb dX12_settingOf_57 rfl (lv_at hl 3 rfl) ?_
    refine lv_iconst (v := 2) hx hb dX12_settingOf_58 (by decide) ?_
    refine q_irem hx hb dX12_settingOf_59 (by decide) ?_
    refine lv_iload hx hb dX12_settingOf_60 (lv_at hl 8 rfl) ?_
    refine lv_iload hx hb dX12_settingOf_62 (lv_at hl 9 rfl) ?_
    obtain ⟨r_4, σ_5, h_6, h⟩ := bd_at h
    refine q_afterI hw (q_runV C hw hl.1 (As := [.int x7, .int (irm x2 (2 : Int32)), .int x8, .int x9]) (rest := []) (m_X12_watched l E x7 (irm x2 (2 : Int32)) x8 x9 σ r_4 σ_5 h_6) yq_X12_watched tM_0 rfl rfl kw_1283 ⟨Nat.le_of_ble_eq_true rfl, Nat.le_of_ble_eq_true rfl⟩ rfl (Nat.le_of_ble_eq_true rfl) ⟨Nat.zero_le _, Nat.zero_le _⟩ dX12_settingOf_64) (fun H locs hw => ?_)
    obtain ⟨rfl, rfl⟩ := ret_at h
    exact q_iret C hw dX12_settingOf_67
  replace h := ie_at h c_3
  by_cases c_7 : x1 = (3 : Int32)
  · replace h := it_at h c_7
    refine lv_tableIn (off := 53) (tgt := 68) hx hb dX12_settingOf_15 (by rw [c_7]; decide) (by rw [c_7]; decide) (by rw [c_7]; rfl) (by decide) ?_
    refine lv_aload_n hx hb dX12_settingOf_68 rfl (lv_at hl 1 rfl) ?_
    refine lv_iload hx hb dX12_settingOf_69 (lv_at hl 6 rfl) ?_
    refine lv_iconst (v := (-1)) hx hb dX12_settingOf_71 (by decide) ?_
    refine lv_iload hx hb dX12_settingOf_72 (lv_at hl 8 rfl) ?_
    refine lv_iload hx hb dX12_settingOf_74 (lv_at hl 9 rfl) ?_
    obtain ⟨r_8, σ_9, h_10, h⟩ := bd_at h
    refine q_afterI hw (q_runV C hw hl.1 (As := [.int x6, .int (-1 : Int32), .int x8, .int x9]) (rest := []) (m_X12_watched l E x6 (-1 : Int32) x8 x9 σ r_8 σ_9 h_10) yq_X12_watched tM_0 rfl rfl kw_1283 ⟨Nat.le_of_ble_eq_true rfl, Nat.le_of_ble_eq_true rfl⟩ rfl (Nat.le_of_ble_eq_true rfl) ⟨Nat.zero_le _, Nat.zero_le _⟩ dX12_settingOf_76) (fun H locs hw => ?_)
    obtain ⟨rfl, rfl⟩ := ret_at h
    exact q_iret C hw dX12_settingOf_79
  replace h := ie_at h c_7
  by_cases c_11 : x1 = (4 : Int32)
  · replace h := it_at h c_11
    refine lv_tableIn (off := 65) (tgt := 80) hx hb dX12_settingOf_15 (by rw [c_11]; decide) (by rw [c_11]; decide) (by rw [c_11]; rfl) (by decide) ?_
    refine lv_aload_n hx hb dX12_settingOf_80 rfl (lv_at hl 1 rfl) ?_
    refine lv_iload hx hb dX12_settingOf_81 (lv_at hl 0 rfl) ?_
    refine lv_iload hx hb dX12_settingOf_83 (lv_at hl 6 rfl) ?_
    refine lv_iload hx hb dX12_settingOf_85 (lv_at hl 8 rfl) ?_
    refine lv_iload hx hb dX12_settingOf_87 (lv_at hl 9 rfl) ?_
    refine lv_iconst (v := (-1)) hx hb dX12_settingOf_89 (by decide) ?_
    obtain ⟨r_12, σ_13, h_14, h⟩ := bd_at h
    refine q_afterI hw (q_runV C hw hl.1 (As := [.int s0, .int x6, .int x8, .int x9, .int (-1 : Int32)]) (rest := []) (m_X12_bestSetting l E s0 x6 x8 x9 (-1 : Int32) σ r_12 σ_13 h_14) yq_X12_bestSetting tM_0 rfl rfl kw_1291 ⟨Nat.le_of_ble_eq_true rfl, Nat.le_of_ble_eq_true rfl⟩ rfl (Nat.le_of_ble_eq_true rfl) ⟨Nat.zero_le _, Nat.zero_le _⟩ dX12_settingOf_90) (fun H locs hw => ?_)
    obtain ⟨rfl, rfl⟩ := ret_at h
    exact q_iret C hw dX12_settingOf_93
  replace h := ie_at h c_11
  by_cases c_15 : x1 = (5 : Int32)
  · replace h := it_at h c_15
    refine lv_tableIn (off := 79) (tgt := 94) hx hb dX12_settingOf_15 (by rw [c_15]; decide) (by rw [c_15]; decide) (by rw [c_15]; rfl) (by decide) ?_
    refine lv_aload_n hx hb dX12_settingOf_94 rfl (lv_at hl 1 rfl) ?_
    refine lv_iload hx hb dX12_settingOf_95 (lv_at hl 0 rfl) ?_
    refine lv_iload hx hb dX12_settingOf_97 (lv_at hl 6 rfl) ?_
    refine lv_iload hx hb dX12_settingOf_99 (lv_at hl 8 rfl) ?_
    refine lv_iload hx hb dX12_settingOf_101 (lv_at hl 9 rfl) ?_
    refine lv_iload_n hx hb dX12_settingOf_103 rfl (lv_at hl 3 rfl) ?_
    obtain ⟨r_16, σ_17, h_18, h⟩ := bd_at h
    refine q_afterI hw (q_runV C hw hl.1 (As := [.int s0, .int x6, .int x8, .int x9, .int x2]) (rest := []) (m_X12_bestSetting l E s0 x6 x8 x9 x2 σ r_16 σ_17 h_18) yq_X12_bestSetting tM_0 rfl rfl kw_1291 ⟨Nat.le_of_ble_eq_true rfl, Nat.le_of_ble_eq_true rfl⟩ rfl (Nat.le_of_ble_eq_true rfl) ⟨Nat.zero_le _, Nat.zero_le _⟩ dX12_settingOf_104) (fun H locs hw => ?_)
    obtain ⟨rfl, rfl⟩ := ret_at h
    exact q_iret C hw dX12_settingOf_107
  replace h := ie_at h c_15
  by_cases c_19 : x1 = (6 : Int32)
  · replace h := it_at h c_19
    refine lv_tableIn (off := 93) (tgt := 108) hx hb dX12_settingOf_15 (by rw [c_19]; decide) (by rw [c_19]; decide) (by rw [c_19]; rfl) (by decide) ?_
    refine lv_aload_n hx hb dX12_settingOf_108 rfl (lv_at hl 1 rfl) ?_
    refine gf_12_1 C hw tM_0 kw_1019 dX12_settingOf_109 ?_
    refine lv_sipush (v := 907) hx hb dX12_settingOf_112 (by decide) ?_
    refine lv_iload_n hx hb dX12_settingOf_115 rfl (lv_at hl 4 rfl) ?_
    refine lv_iadd hx hb dX12_settingOf_116 ?_
    obtain ⟨g_20, h⟩ := gd_at h
    refine q_iald C hw tM_1 g_20 dX12_settingOf_117 ?_
    refine lv_if_ne (tgt := 125) hx hb dX12_settingOf_118 (by decide) (fun c_21 => ?_) (fun c_21 => ?_)
    · replace h := ie_at h c_21
      refine lv_aload_n hx hb dX12_settingOf_125 rfl (lv_at hl 1 rfl) ?_
      refine gf_12_1 C hw tM_0 kw_1019 dX12_settingOf_126 ?_
      refine lv_sipush (v := 917) hx hb dX12_settingOf_129 (by decide) ?_
      refine lv_bipush (v := 10) hx hb dX12_settingOf_132 (by decide) ?_
      refine lv_iload_n hx hb dX12_settingOf_134 rfl (lv_at hl 4 rfl) ?_
      refine lv_imul hx hb dX12_settingOf_135 ?_
      refine lv_iadd hx hb dX12_settingOf_136 ?_
      refine lv_iload hx hb dX12_settingOf_137 (lv_at hl 5 rfl) ?_
      refine lv_aload_n hx hb dX12_settingOf_139 rfl (lv_at hl 1 rfl) ?_
      refine gf_12_1 C hw tM_0 kw_1019 dX12_settingOf_140 ?_
      refine lv_sipush (v := 907) hx hb dX12_settingOf_143 (by decide) ?_
      refine lv_iload_n hx hb dX12_settingOf_146 rfl (lv_at hl 4 rfl) ?_
      refine lv_iadd hx hb dX12_settingOf_147 ?_
      obtain ⟨g_22, h⟩ := gd_at h
      refine q_iald C hw tM_1 g_22 dX12_settingOf_148 ?_
      obtain ⟨g_23, h⟩ := gd_at h
      refine q_irem hx hb dX12_settingOf_149 (of_decide_eq_true g_23) ?_
      refine lv_iadd hx hb dX12_settingOf_150 ?_
      obtain ⟨g_24, h⟩ := gd_at h
      refine q_iald C hw tM_1 g_24 dX12_settingOf_151 ?_
      obtain ⟨rfl, rfl⟩ := ret_at h
      exact q_iret C hw dX12_settingOf_152
    · replace h := it_at h c_21
      refine lv_iload_n hx hb dX12_settingOf_121 rfl (lv_at hl 3 rfl) ?_
      refine lv_goto (tgt := 152) hx hb dX12_settingOf_122 (by decide) ?_
      obtain ⟨rfl, rfl⟩ := ret_at h
      exact q_iret C hw dX12_settingOf_152
  replace h := ie_at h c_19
  refine lv_tableOut (tgt := 153) hx hb dX12_settingOf_15 (tsw_out (fun k h1 h2 => by
    rcases (show k = 1 ∨ k = 2 ∨ k = 3 ∨ k = 4 ∨ k = 5 ∨ k = 6 by omega) with rfl | rfl | rfl | rfl | rfl | rfl
    · exact c_2
    · exact c_3
    · exact c_7
    · exact c_11
    · exact c_15
    · exact c_19)) (by decide) ?_
  refine lv_iconst (v := 0) hx hb dX12_settingOf_153 (by decide) ?_
  obtain ⟨rfl, rfl⟩ := ret_at h
  exact q_iret C hw dX12_settingOf_154
set_option maxHeartbeats 4000000 in
set_option maxRecDepth 100000 in
theorem m_X12_settingOf (l : Launch) (E : EV) (p1 : Int32) (p2 : Int32) (p3 : Int32) (p4 : Int32) (p5 : Int32) (p6 : Int32) (p7 : Int32) (p8 : Int32) (p9 : Int32) (σ : Mem) (rr : Int32) (τ : Mem) (h : f_X12_settingOf p1 p2 p3 p4 p5 p6 p7 p8 p9 σ = some (rr, τ)) : MI TM l E yX12_settingOf cX12_settingOf 11 (some .int) 75 2286 [.ref (E.2.1 (0)), .int p1, .int p2, .int p3, .int p4, .int p5, .int p6, .int p7, .int p8, .int p9] σ rr τ := by
  refine mt_start RX12 (by decide +kernel) rfl (Nat.le_of_ble_eq_true rfl) (fun p e s m args below meth c ls C hw hl => ?_)
  replace hl : lv_has ls 11 [(0, .ref (E.2.1 (0))), (1, .int p1), (2, .int p2), (3, .int p3), (4, .int p4), (5, .int p5), (6, .int p6), (7, .int p7), (8, .int p8), (9, .int p9)] := hl
  obtain ⟨hx, hb, hml, hown, hts, hK, hSt, hlk, hr⟩ := id C
  unfold f_X12_settingOf at h
  refine lv_iload hx hb dX12_settingOf_0 (lv_at hl 5 rfl) ?_
  refine lv_iconst (v := 3) hx hb dX12_settingOf_2 (by decide) ?_
  refine lv_icmp_le (tgt := 10) hx hb dX12_settingOf_3 (by decide) (fun c_1 => ?_) (fun c_1 => ?_)
  · replace h := it_at h c_1
    refine lv_iload hx hb dX12_settingOf_10 (lv_at hl 5 rfl) ?_
    exact w_X12_settingOf_12 C _ _ _ _ _ _ _ _ _ _ _ _ _ hw (lv_sub hl [0, 1, 2, 3, 4, 6, 7, 8, 9] rfl) h
  · replace h := ie_at h c_1
    refine lv_iconst (v := 3) hx hb dX12_settingOf_6 (by decide) ?_
    refine lv_goto (tgt := 12) hx hb dX12_settingOf_7 (by decide) ?_
    exact w_X12_settingOf_12 C _ _ _ _ _ _ _ _ _ _ _ _ _ hw (lv_sub hl [0, 1, 2, 3, 4, 6, 7, 8, 9] rfl) h
def f_X12_nextWind_24 (k24 : Int32 → Int32 → Int32 → Int32 → Mem → Option (Int32 × Mem)) (x1 : Int32) (x4 : Int32) (x5 : Int32) (x6 : Int32) (σ : Mem) : Option (Int32 × Mem) :=
  if (6 : Int32) ≤ x6 then
    (some (x1, σ))
  else
    gd (ib (((851 : Int32) + ((6 : Int32) * x1)) + x6) 1055) <|
    lt (x5 + (gI σ 1 (((851 : Int32) + ((6 : Int32) * x1)) + x6).toNatClampNeg)) fun x5_4 =>
    if x5_4 ≤ x4 then
      (lt (x6 + (1 : Int32)) fun x6_6 =>
      k24 x1 x4 x5_4 x6_6 σ)
    else
      some (x6, σ)
def f_X12_nextWind (p1 : Int32) (p2 : Int32) (p3 : Int32) (σ : Mem) : Option (Int32 × Mem) :=
  lt (irm ((((31 : Int32) * p2) + ((17 : Int32) * p3)) * (7 : Int32)) (1000 : Int32)) fun x4_1 =>
  fx5 (f_X12_nextWind_24) FU p1 x4_1 (0 : Int32) (0 : Int32) σ
set_option maxHeartbeats 4000000 in
set_option maxRecDepth 100000 in
theorem w_X12_nextWind_24 {p : Program} {l : Launch} {e : Env} {s : State} {m : MethodId} {args : Array Value} {below : List Frame} {meth : Method} {c : Code} {E : EV} {rr : Int32} {τ : Mem} (C : Cx E p s m args meth c cX12_nextWind 7 (some .int) RX12) : ∀ (n : Nat) (x1 : Int32) (x4 : Int32) (x5 : Int32) (x6 : Int32) (σ : Mem) (H : Heap) (locs : List Loc) (ls : Array Slot) (hw : Wd TM E σ s H locs) (hl : lv_has ls 7 [(0, .ref (E.2.1 (0))), (1, .int x1), (4, .int x4), (5, .int x5), (6, .int x6)]) (h : fx5 (f_X12_nextWind_24) n x1 x4 x5 x6 σ = some (rr, τ)), W p l e { frames := 0, cells := 0, slots := 0, locals := 0 } s m args below meth c H locs 0 0 (MQ below (QI TM E rr τ) args s 0 0 E.2.2.1) (F0 m 24 ls []) := by
  obtain ⟨hx, hb, hml, hown, hts, hK, hSt, hlk, hr⟩ := id C
  intro n
  induction n with
  | zero =>
    intro x1 x4 x5 x6 σ H locs ls hw hl h
    have h : none = some (rr, τ) := h
    cases h
  | succ n hk24 =>
    intro x1 x4 x5 x6 σ H locs ls hw hl h
    replace h : f_X12_nextWind_24 (fx5 (f_X12_nextWind_24) n) x1 x4 x5 x6 σ = some (rr, τ) := h
    unfold f_X12_nextWind_24 at h
    refine lv_iload hx hb dX12_nextWind_24 (lv_at hl 4 rfl) ?_
    refine lv_bipush (v := 6) hx hb dX12_nextWind_26 (by decide) ?_
    refine lv_icmp_ge (tgt := 68) hx hb dX12_nextWind_28 (by decide) (fun c_2 => ?_) (fun c_2 => ?_)
    · replace h := it_at h c_2
      refine lv_iload_n hx hb dX12_nextWind_68 rfl (lv_at hl 1 rfl) ?_
      obtain ⟨rfl, rfl⟩ := ret_at h
      exact q_iret C hw dX12_nextWind_69
    · replace h := ie_at h c_2
      refine lv_iload hx hb dX12_nextWind_31 (lv_at hl 3 rfl) ?_
      refine lv_aload_n hx hb dX12_nextWind_33 rfl (lv_at hl 0 rfl) ?_
      refine gf_12_1 C hw tM_0 kw_1019 dX12_nextWind_34 ?_
      refine lv_sipush (v := 851) hx hb dX12_nextWind_37 (by decide) ?_
      refine lv_bipush (v := 6) hx hb dX12_nextWind_40 (by decide) ?_
      refine lv_iload_n hx hb dX12_nextWind_42 rfl (lv_at hl 1 rfl) ?_
      refine lv_imul hx hb dX12_nextWind_43 ?_
      refine lv_iadd hx hb dX12_nextWind_44 ?_
      refine lv_iload hx hb dX12_nextWind_45 (lv_at hl 4 rfl) ?_
      refine lv_iadd hx hb dX12_nextWind_47 ?_
      obtain ⟨g_3, h⟩ := gd_at h
      refine q_iald C hw tM_1 g_3 dX12_nextWind_48 ?_
      refine lv_iadd hx hb dX12_nextWind_49 ?_
      obtain ⟨x5_4, ex5_4, h⟩ := lt_at h
      refine q_top ex5_4 ?_
      refine lv_istore (lv' := [(5, .int x5_4), (0, .ref (E.2.1 (0))), (1, .int x1), (4, .int x4), (6, .int x6)]) hx hb dX12_nextWind_50 hl (by decide) rfl (fun ls hl => ?_)
      refine lv_iload hx hb dX12_nextWind_52 (lv_at hl 0 rfl) ?_
      refine lv_iload hx hb dX12_nextWind_54 (lv_at hl 3 rfl) ?_
      refine lv_icmp_le (tgt := 62) hx hb dX12_nextWind_56 (by decide) (fun c_5 => ?_) (fun c_5 => ?_)
      · replace h := it_at h c_5
        obtain ⟨x6_6, ex6_6, h⟩ := lt_at h
        refine lv_iinc (v := x6_6) (lv' := [(6, .int x6_6), (5, .int x5_4), (0, .ref (E.2.1 (0))), (1, .int x1), (4, .int x4)]) hx hb dX12_nextWind_62 hl (k := 4) rfl (by rw [ex6_6]; rfl) (by decide) rfl (fun ls hl => ?_)
        refine lv_goto (tgt := 24) hx hb dX12_nextWind_65 (by decide) ?_
        exact hk24 _ _ _ _ _ _ _ _ hw (lv_sub hl [2, 3, 4, 1, 0] rfl) h
      · replace h := ie_at h c_5
        refine lv_iload hx hb dX12_nextWind_59 (lv_at hl 4 rfl) ?_
        obtain ⟨rfl, rfl⟩ := ret_at h
        exact q_iret C hw dX12_nextWind_61
set_option maxHeartbeats 4000000 in
set_option maxRecDepth 100000 in
theorem m_X12_nextWind (l : Launch) (E : EV) (p1 : Int32) (p2 : Int32) (p3 : Int32) (σ : Mem) (rr : Int32) (τ : Mem) (h : f_X12_nextWind p1 p2 p3 σ = some (rr, τ)) : MI TM l E yX12_nextWind cX12_nextWind 7 (some .int) 0 0 [.ref (E.2.1 (0)), .int p1, .int p2, .int p3] σ rr τ := by
  refine mt_start RX12 (by decide +kernel) rfl (Nat.le_of_ble_eq_true rfl) (fun p e s m args below meth c ls C hw hl => ?_)
  replace hl : lv_has ls 7 [(0, .ref (E.2.1 (0))), (1, .int p1), (2, .int p2), (3, .int p3)] := hl
  obtain ⟨hx, hb, hml, hown, hts, hK, hSt, hlk, hr⟩ := id C
  unfold f_X12_nextWind at h
  refine lv_bipush (v := 31) hx hb dX12_nextWind_0 (by decide) ?_
  refine lv_iload_n hx hb dX12_nextWind_2 rfl (lv_at hl 2 rfl) ?_
  refine lv_imul hx hb dX12_nextWind_3 ?_
  refine lv_bipush (v := 17) hx hb dX12_nextWind_4 (by decide) ?_
  refine lv_iload_n hx hb dX12_nextWind_6 rfl (lv_at hl 3 rfl) ?_
  refine lv_imul hx hb dX12_nextWind_7 ?_
  refine lv_iadd hx hb dX12_nextWind_8 ?_
  refine lv_bipush (v := 7) hx hb dX12_nextWind_9 (by decide) ?_
  refine lv_imul hx hb dX12_nextWind_11 ?_
  refine lv_sipush (v := 1000) hx hb dX12_nextWind_12 (by decide) ?_
  refine q_irem hx hb dX12_nextWind_15 (by decide) ?_
  obtain ⟨x4_1, ex4_1, h⟩ := lt_at h
  refine q_top ex4_1 ?_
  refine lv_istore (lv' := [(4, .int x4_1), (0, .ref (E.2.1 (0))), (1, .int p1), (2, .int p2), (3, .int p3)]) hx hb dX12_nextWind_16 hl (by decide) rfl (fun ls hl => ?_)
  refine lv_iconst (v := 0) hx hb dX12_nextWind_18 (by decide) ?_
  refine lv_istore (lv' := [(5, .int (0 : Int32)), (4, .int x4_1), (0, .ref (E.2.1 (0))), (1, .int p1), (2, .int p2), (3, .int p3)]) hx hb dX12_nextWind_19 hl (by decide) rfl (fun ls hl => ?_)
  refine lv_iconst (v := 0) hx hb dX12_nextWind_21 (by decide) ?_
  refine lv_istore (lv' := [(6, .int (0 : Int32)), (5, .int (0 : Int32)), (4, .int x4_1), (0, .ref (E.2.1 (0))), (1, .int p1), (2, .int p2), (3, .int p3)]) hx hb dX12_nextWind_22 hl (by decide) rfl (fun ls hl => ?_)
  exact w_X12_nextWind_24 C _ _ _ _ _ _ _ _ _ hw (lv_sub hl [3, 4, 2, 1, 0] rfl) h
def f_X12_run_272 (x2 : Int32) (x5 : Int64) (x7 : Int32) (x8 : Int32) (x12 : Int32) (σ : Mem) : Option (Int64 × Mem) :=
  lt (sI σ 1 6 ((gI σ 1 6) + x2)) fun σ_41 =>
  lt (sI σ_41 1 7 x7) fun σ_42 =>
  lt (sI σ_42 1 8 x8) fun σ_43 =>
  lt (sI σ_43 1 9 ((gI σ_43 1 9) + (x5.toInt32))) fun σ_44 =>
  if x12 = 0 then
    (lt (sI σ_44 1 10 (1 : Int32)) fun σ_46 =>
    some (x5, σ_46))
  else
    lt (sI σ_44 1 10 (0 : Int32)) fun σ_47 =>
    some (x5, σ_47)
def f_X12_run_227 (k125 : Int32 → Int32 → Int32 → Int64 → Int32 → Int32 → Int32 → Int32 → Int32 → Int32 → Int32 → Mem → Option (Int64 × Mem)) (x1 : Int32) (x2 : Int32) (x3 : Int32) (x9 : Int32) (x10 : Int32) (x12 : Int32) (x13 : Int32) (x15 : Int32) (s0 : Int64) (s1 : Int64) (σ : Mem) : Option (Int64 × Mem) :=
  lt (s0 + s1) fun x5_50 =>
  gd (ib x15 4800) <|
  lt (gI σ 7 x15.toNatClampNeg) fun x7_52 =>
  gd (ib x15 4800) <|
  lt (gI σ 8 x15.toNatClampNeg) fun x8_54 =>
  lt (x9 + (1 : Int32)) fun x9_55 =>
  bd (f_X12_nextWind x10 x3 x9_55 σ) fun r_56 σ_57 =>
  lt (x13 + (1 : Int32)) fun x13_59 =>
  k125 x1 x2 x3 x5_50 x7_52 x8_54 x9_55 r_56 x10 x12 x13_59 σ_57
def f_X12_run_206 (k125 : Int32 → Int32 → Int32 → Int64 → Int32 → Int32 → Int32 → Int32 → Int32 → Int32 → Int32 → Mem → Option (Int64 × Mem)) (x1 : Int32) (x2 : Int32) (x3 : Int32) (x5 : Int64) (x9 : Int32) (x10 : Int32) (x13 : Int32) (x15 : Int32) (s0 : Int32) (σ : Mem) : Option (Int64 × Mem) :=
  if s0 = 0 then
    (f_X12_run_227 k125 x1 x2 x3 x9 x10 s0 x13 x15 x5 (0 : Int64) σ)
  else
    gd (ib x15 4800) <|
    f_X12_run_227 k125 x1 x2 x3 x9 x10 s0 x13 x15 x5 ((gI σ 6 x15.toNatClampNeg).toInt64) σ
def f_X12_run_125 (k125 : Int32 → Int32 → Int32 → Int64 → Int32 → Int32 → Int32 → Int32 → Int32 → Int32 → Int32 → Mem → Option (Int64 × Mem)) (x1 : Int32) (x2 : Int32) (x3 : Int32) (x5 : Int64) (x7 : Int32) (x8 : Int32) (x9 : Int32) (x10 : Int32) (x11 : Int32) (x12 : Int32) (x13 : Int32) (σ : Mem) : Option (Int64 × Mem) :=
  if x2 ≤ x13 then
    (f_X12_run_272 x2 x5 x7 x8 x12 σ)
  else
    if x12 = 0 then
      (f_X12_run_272 x2 x5 x7 x8 x12 σ)
    else
      gd (ib ((887 : Int32) + x1) 1055) <|
      gd (ib ((897 : Int32) + x1) 1055) <|
      bd (f_X12_settingOf (gI σ 1 ((887 : Int32) + x1).toNatClampNeg) (gI σ 1 ((897 : Int32) + x1).toNatClampNeg) x1 x13 (x2 - x13) x10 x11 x7 x8 σ) fun r_33 σ_34 =>
      bd (f_X12_hourPlace x10 r_33 x7 x8 σ_34) fun r_36 σ_37 =>
      gd (ib r_36 4800) <|
      if (gI σ_37 6 r_36.toNatClampNeg) < 0 then
        (f_X12_run_206 k125 x1 x2 x3 x5 x9 x10 x13 r_36 (0 : Int32) σ_37)
      else
        f_X12_run_206 k125 x1 x2 x3 x5 x9 x10 x13 r_36 (1 : Int32) σ_37
def f_X12_run_120 (x1 : Int32) (x2 : Int32) (x3 : Int32) (x5 : Int64) (x7 : Int32) (x8 : Int32) (x9 : Int32) (x10 : Int32) (x11 : Int32) (s0 : Int32) (σ : Mem) : Option (Int64 × Mem) :=
  fx12 (f_X12_run_125) FU x1 x2 x3 x5 x7 x8 x9 x10 x11 s0 (0 : Int32) σ
def f_X12_run (p1 : Int32) (p2 : Int32) (p3 : Int32) (p4 : Int32) (σ : Mem) : Option (Int64 × Mem) :=
  bd (f_X12_isRule p1 σ) fun r_1 σ_2 =>
  if r_1 = 0 then
    (some ((-9223372036854775808 : Int64), σ_2))
  else
    bd (f_X12_in p2 (1 : Int32) (30 : Int32) σ_2) fun r_5 σ_6 =>
    if r_5 = 0 then
      (some ((-9223372036854775808 : Int64), σ_6))
    else
      bd (f_X12_in p3 (0 : Int32) (999 : Int32) σ_6) fun r_9 σ_10 =>
      if r_9 = 0 then
        (some ((-9223372036854775808 : Int64), σ_10))
      else
        bd (f_X12_isWind p4 σ_10) fun r_13 σ_14 =>
        if r_13 = 0 then
          (some ((-9223372036854775808 : Int64), σ_14))
        else
          bd (f_X12_isLed σ_14) fun r_17 σ_18 =>
          if r_17 = 0 then
            (some ((-9223372036854775808 : Int64), σ_18))
          else
            if ((gI σ_18 1 6) + p2) ≤ (999 : Int32) then
              (bv (f_X12_begins σ_18) fun σ_23 =>
              lt (gI σ_23 1 7) fun x7_25 =>
              lt (gI σ_23 1 8) fun x8_26 =>
              lt (gI σ_23 1 6) fun x9_27 =>
              if (gI σ_23 1 10) = 0 then
                (f_X12_run_120 p1 p2 p3 (0 : Int64) x7_25 x8_26 x9_27 p4 p4 (1 : Int32) σ_23)
              else
                f_X12_run_120 p1 p2 p3 (0 : Int64) x7_25 x8_26 x9_27 p4 p4 (0 : Int32) σ_23)
            else
              some ((-9223372036854775808 : Int64), σ_18)
set_option maxHeartbeats 4000000 in
set_option maxRecDepth 100000 in
theorem w_X12_run_272 {p : Program} {l : Launch} {e : Env} {s : State} {m : MethodId} {args : Array Value} {below : List Frame} {meth : Method} {c : Code} {E : EV} {rr : Int64} {τ : Mem} (C : Cx E p s m args meth c cX12_run 16 (some .long) RX12) : ∀ (x2 : Int32) (x5 : Int64) (x7 : Int32) (x8 : Int32) (x12 : Int32) (σ : Mem) (H : Heap) (locs : List Loc) (ls : Array Slot) (hw : Wd TM E σ s H locs) (hl : lv_has ls 16 [(0, .ref (E.2.1 (0))), (2, .int x2), (5, .long x5), (7, .int x7), (8, .int x8), (12, .int x12)]) (h : f_X12_run_272 x2 x5 x7 x8 x12 σ = some (rr, τ)), W p l e { frames := 76, cells := 0, slots := 0, locals := 2316 } s m args below meth c H locs 0 0 (MQ below (QL TM E rr τ) args s 0 0 E.2.2.1) (F0 m 272 ls []) := by
  obtain ⟨hx, hb, hml, hown, hts, hK, hSt, hlk, hr⟩ := id C
  intro x2 x5 x7 x8 x12 σ H locs ls hw hl h
  unfold f_X12_run_272 at h
  refine lv_aload_n hx hb dX12_run_272 rfl (lv_at hl 0 rfl) ?_
  refine gf_12_1 C hw tM_0 kw_1019 dX12_run_273 ?_
  refine lv_bipush (v := 6) hx hb dX12_run_276 (by decide) ?_
  refine lv_dup2_11 hx hb dX12_run_278 rfl rfl ?_
  refine q_ialdk C hw tM_1 (k := 6) (by rfl) (by decide) (by decide) dX12_run_279 ?_
  refine lv_iload_n hx hb dX12_run_280 rfl (lv_at hl 1 rfl) ?_
  refine lv_iadd hx hb dX12_run_281 ?_
  obtain ⟨σ_41, eσ_41, h⟩ := lt_at h
  refine q_iastk C hw tM_1 (k := 6) (by rfl) (by decide) (by decide) eσ_41 dX12_run_282 (fun H locs hw => ?_)
  refine lv_aload_n hx hb dX12_run_283 rfl (lv_at hl 0 rfl) ?_
  refine gf_12_1 C hw tM_0 kw_1019 dX12_run_284 ?_
  refine lv_bipush (v := 7) hx hb dX12_run_287 (by decide) ?_
  refine lv_iload hx hb dX12_run_289 (lv_at hl 3 rfl) ?_
  obtain ⟨σ_42, eσ_42, h⟩ := lt_at h
  refine q_iastk C hw tM_1 (k := 7) (by rfl) (by decide) (by decide) eσ_42 dX12_run_291 (fun H locs hw => ?_)
  refine lv_aload_n hx hb dX12_run_292 rfl (lv_at hl 0 rfl) ?_
  refine gf_12_1 C hw tM_0 kw_1019 dX12_run_293 ?_
  refine lv_bipush (v := 8) hx hb dX12_run_296 (by decide) ?_
  refine lv_iload hx hb dX12_run_298 (lv_at hl 4 rfl) ?_
  obtain ⟨σ_43, eσ_43, h⟩ := lt_at h
  refine q_iastk C hw tM_1 (k := 8) (by rfl) (by decide) (by decide) eσ_43 dX12_run_300 (fun H locs hw => ?_)
  refine lv_aload_n hx hb dX12_run_301 rfl (lv_at hl 0 rfl) ?_
  refine gf_12_1 C hw tM_0 kw_1019 dX12_run_302 ?_
  refine lv_bipush (v := 9) hx hb dX12_run_305 (by decide) ?_
  refine lv_dup2_11 hx hb dX12_run_307 rfl rfl ?_
  refine q_ialdk C hw tM_1 (k := 9) (by rfl) (by decide) (by decide) dX12_run_308 ?_
  refine lv_lload hx hb dX12_run_309 (lv_at hl 2 rfl) ?_
  refine lv_l2i hx hb dX12_run_311 rfl ?_
  refine lv_iadd hx hb dX12_run_312 ?_
  obtain ⟨σ_44, eσ_44, h⟩ := lt_at h
  refine q_iastk C hw tM_1 (k := 9) (by rfl) (by decide) (by decide) eσ_44 dX12_run_313 (fun H locs hw => ?_)
  refine lv_aload_n hx hb dX12_run_314 rfl (lv_at hl 0 rfl) ?_
  refine gf_12_1 C hw tM_0 kw_1019 dX12_run_315 ?_
  refine lv_bipush (v := 10) hx hb dX12_run_318 (by decide) ?_
  refine lv_iload hx hb dX12_run_320 (lv_at hl 5 rfl) ?_
  refine lv_if_eq (tgt := 329) hx hb dX12_run_322 (by decide) (fun c_45 => ?_) (fun c_45 => ?_)
  · replace h := it_at h c_45
    refine lv_iconst (v := 1) hx hb dX12_run_329 (by decide) ?_
    obtain ⟨σ_46, eσ_46, h⟩ := lt_at h
    refine q_iastk C hw tM_1 (k := 10) (by rfl) (by decide) (by decide) eσ_46 dX12_run_330 (fun H locs hw => ?_)
    refine lv_lload hx hb dX12_run_331 (lv_at hl 2 rfl) ?_
    obtain ⟨rfl, rfl⟩ := ret_at h
    exact q_lret C hw dX12_run_333
  · replace h := ie_at h c_45
    refine lv_iconst (v := 0) hx hb dX12_run_325 (by decide) ?_
    refine lv_goto (tgt := 330) hx hb dX12_run_326 (by decide) ?_
    obtain ⟨σ_47, eσ_47, h⟩ := lt_at h
    refine q_iastk C hw tM_1 (k := 10) (by rfl) (by decide) (by decide) eσ_47 dX12_run_330 (fun H locs hw => ?_)
    refine lv_lload hx hb dX12_run_331 (lv_at hl 2 rfl) ?_
    obtain ⟨rfl, rfl⟩ := ret_at h
    exact q_lret C hw dX12_run_333
set_option maxHeartbeats 4000000 in
set_option maxRecDepth 100000 in
theorem w_X12_run_227 {p : Program} {l : Launch} {e : Env} {s : State} {m : MethodId} {args : Array Value} {below : List Frame} {meth : Method} {c : Code} {E : EV} {rr : Int64} {τ : Mem} (C : Cx E p s m args meth c cX12_run 16 (some .long) RX12) (k125 : Int32 → Int32 → Int32 → Int64 → Int32 → Int32 → Int32 → Int32 → Int32 → Int32 → Int32 → Mem → Option (Int64 × Mem)) (hk125 : ∀ (x1 : Int32) (x2 : Int32) (x3 : Int32) (x5 : Int64) (x7 : Int32) (x8 : Int32) (x9 : Int32) (x10 : Int32) (x11 : Int32) (x12 : Int32) (x13 : Int32) (σ : Mem) (H : Heap) (locs : List Loc) (ls : Array Slot) (hw : Wd TM E σ s H locs) (hl : lv_has ls 16 [(0, .ref (E.2.1 (0))), (1, .int x1), (2, .int x2), (3, .int x3), (5, .long x5), (7, .int x7), (8, .int x8), (9, .int x9), (10, .int x10), (11, .int x11), (12, .int x12), (13, .int x13)]) (h : k125 x1 x2 x3 x5 x7 x8 x9 x10 x11 x12 x13 σ = some (rr, τ)), W p l e { frames := 76, cells := 0, slots := 0, locals := 2316 } s m args below meth c H locs 0 0 (MQ below (QL TM E rr τ) args s 0 0 E.2.2.1) (F0 m 125 ls [])) : ∀ (x1 : Int32) (x2 : Int32) (x3 : Int32) (x9 : Int32) (x10 : Int32) (x12 : Int32) (x13 : Int32) (x15 : Int32) (s0 : Int64) (s1 : Int64) (σ : Mem) (H : Heap) (locs : List Loc) (ls : Array Slot) (hw : Wd TM E σ s H locs) (hl : lv_has ls 16 [(0, .ref (E.2.1 (0))), (1, .int x1), (2, .int x2), (3, .int x3), (9, .int x9), (10, .int x10), (12, .int x12), (13, .int x13), (15, .int x15)]) (h : f_X12_run_227 k125 x1 x2 x3 x9 x10 x12 x13 x15 s0 s1 σ = some (rr, τ)), W p l e { frames := 76, cells := 0, slots := 0, locals := 2316 } s m args below meth c H locs 0 0 (MQ below (QL TM E rr τ) args s 0 0 E.2.2.1) (F0 m 227 ls [.long s1, .long s0]) := by
  obtain ⟨hx, hb, hml, hown, hts, hK, hSt, hlk, hr⟩ := id C
  intro x1 x2 x3 x9 x10 x12 x13 x15 s0 s1 σ H locs ls hw hl h
  unfold f_X12_run_227 at h
  refine lv_ladd hx hb dX12_run_227 ?_
  obtain ⟨x5_50, ex5_50, h⟩ := lt_at h
  refine q_topl ex5_50 ?_
  refine lv_lstore (lv' := [(5, .long x5_50), (0, .ref (E.2.1 (0))), (1, .int x1), (2, .int x2), (3, .int x3), (9, .int x9), (10, .int x10), (12, .int x12), (13, .int x13), (15, .int x15)]) hx hb dX12_run_228 hl (by decide) rfl (fun ls hl => ?_)
  refine lv_aload_n hx hb dX12_run_230 rfl (lv_at hl 1 rfl) ?_
  refine gf_12_18 C hw tM_0 kw_1036 dX12_run_231 ?_
  refine lv_iload hx hb dX12_run_234 (lv_at hl 9 rfl) ?_
  obtain ⟨g_51, h⟩ := gd_at h
  refine q_iald C hw tM_7 g_51 dX12_run_236 ?_
  obtain ⟨x7_52, ex7_52, h⟩ := lt_at h
  refine q_top ex7_52 ?_
  refine lv_istore (lv' := [(7, .int x7_52), (5, .long x5_50), (0, .ref (E.2.1 (0))), (1, .int x1), (2, .int x2), (3, .int x3), (9, .int x9), (10, .int x10), (12, .int x12), (13, .int x13), (15, .int x15)]) hx hb dX12_run_237 hl (by decide) rfl (fun ls hl => ?_)
  refine lv_aload_n hx hb dX12_run_239 rfl (lv_at hl 2 rfl) ?_
  refine gf_12_19 C hw tM_0 kw_1037 dX12_run_240 ?_
  refine lv_iload hx hb dX12_run_243 (lv_at hl 10 rfl) ?_
  obtain ⟨g_53, h⟩ := gd_at h
  refine q_iald C hw tM_8 g_53 dX12_run_245 ?_
  obtain ⟨x8_54, ex8_54, h⟩ := lt_at h
  refine q_top ex8_54 ?_
  refine lv_istore (lv' := [(8, .int x8_54), (7, .int x7_52), (5, .long x5_50), (0, .ref (E.2.1 (0))), (1, .int x1), (2, .int x2), (3, .int x3), (9, .int x9), (10, .int x10), (12, .int x12), (13, .int x13), (15, .int x15)]) hx hb dX12_run_246 hl (by decide) rfl (fun ls hl => ?_)
  obtain ⟨x9_55, ex9_55, h⟩ := lt_at h
  refine lv_iinc (v := x9_55) (lv' := [(9, .int x9_55), (8, .int x8_54), (7, .int x7_52), (5, .long x5_50), (0, .ref (E.2.1 (0))), (1, .int x1), (2, .int x2), (3, .int x3), (10, .int x10), (12, .int x12), (13, .int x13), (15, .int x15)]) hx hb dX12_run_248 hl (k := 7) rfl (by rw [ex9_55]; rfl) (by decide) rfl (fun ls hl => ?_)
  refine lv_iload hx hb dX12_run_251 (lv_at hl 8 rfl) ?_
  refine lv_istore (lv' := [(11, .int x10), (9, .int x9_55), (8, .int x8_54), (7, .int x7_52), (5, .long x5_50), (0, .ref (E.2.1 (0))), (1, .int x1), (2, .int x2), (3, .int x3), (10, .int x10), (12, .int x12), (13, .int x13), (15, .int x15)]) hx hb dX12_run_253 hl (by decide) rfl (fun ls hl => ?_)
  refine lv_aload_n hx hb dX12_run_255 rfl (lv_at hl 5 rfl) ?_
  refine lv_iload hx hb dX12_run_256 (lv_at hl 9 rfl) ?_
  refine lv_iload_n hx hb dX12_run_258 rfl (lv_at hl 8 rfl) ?_
  refine lv_iload hx hb dX12_run_259 (lv_at hl 1 rfl) ?_
  obtain ⟨r_56, σ_57, h_58, h⟩ := bd_at h
  refine q_afterI hw (q_runV C hw hl.1 (As := [.int x10, .int x3, .int x9_55]) (rest := []) (m_X12_nextWind l E x10 x3 x9_55 σ r_56 σ_57 h_58) yq_X12_nextWind tM_0 rfl rfl kw_1402 ⟨Nat.le_of_ble_eq_true rfl, Nat.le_of_ble_eq_true rfl⟩ rfl (Nat.le_of_ble_eq_true rfl) ⟨Nat.zero_le _, Nat.zero_le _⟩ dX12_run_261) (fun H locs hw => ?_)
  refine lv_istore (lv' := [(10, .int r_56), (11, .int x10), (9, .int x9_55), (8, .int x8_54), (7, .int x7_52), (5, .long x5_50), (0, .ref (E.2.1 (0))), (1, .int x1), (2, .int x2), (3, .int x3), (12, .int x12), (13, .int x13), (15, .int x15)]) hx hb dX12_run_264 hl (by decide) rfl (fun ls hl => ?_)
  obtain ⟨x13_59, ex13_59, h⟩ := lt_at h
  refine lv_iinc (v := x13_59) (lv' := [(13, .int x13_59), (10, .int r_56), (11, .int x10), (9, .int x9_55), (8, .int x8_54), (7, .int x7_52), (5, .long x5_50), (0, .ref (E.2.1 (0))), (1, .int x1), (2, .int x2), (3, .int x3), (12, .int x12), (15, .int x15)]) hx hb dX12_run_266 hl (k := 11) rfl (by rw [ex13_59]; rfl) (by decide) rfl (fun ls hl => ?_)
  refine lv_goto (tgt := 125) hx hb dX12_run_269 (by decide) ?_
  exact hk125 _ _ _ _ _ _ _ _ _ _ _ _ _ _ _ hw (lv_sub hl [7, 8, 9, 10, 6, 5, 4, 3, 1, 2, 11, 0] rfl) h
set_option maxHeartbeats 4000000 in
set_option maxRecDepth 100000 in
theorem w_X12_run_206 {p : Program} {l : Launch} {e : Env} {s : State} {m : MethodId} {args : Array Value} {below : List Frame} {meth : Method} {c : Code} {E : EV} {rr : Int64} {τ : Mem} (C : Cx E p s m args meth c cX12_run 16 (some .long) RX12) (k125 : Int32 → Int32 → Int32 → Int64 → Int32 → Int32 → Int32 → Int32 → Int32 → Int32 → Int32 → Mem → Option (Int64 × Mem)) (hk125 : ∀ (x1 : Int32) (x2 : Int32) (x3 : Int32) (x5 : Int64) (x7 : Int32) (x8 : Int32) (x9 : Int32) (x10 : Int32) (x11 : Int32) (x12 : Int32) (x13 : Int32) (σ : Mem) (H : Heap) (locs : List Loc) (ls : Array Slot) (hw : Wd TM E σ s H locs) (hl : lv_has ls 16 [(0, .ref (E.2.1 (0))), (1, .int x1), (2, .int x2), (3, .int x3), (5, .long x5), (7, .int x7), (8, .int x8), (9, .int x9), (10, .int x10), (11, .int x11), (12, .int x12), (13, .int x13)]) (h : k125 x1 x2 x3 x5 x7 x8 x9 x10 x11 x12 x13 σ = some (rr, τ)), W p l e { frames := 76, cells := 0, slots := 0, locals := 2316 } s m args below meth c H locs 0 0 (MQ below (QL TM E rr τ) args s 0 0 E.2.2.1) (F0 m 125 ls [])) : ∀ (x1 : Int32) (x2 : Int32) (x3 : Int32) (x5 : Int64) (x9 : Int32) (x10 : Int32) (x13 : Int32) (x15 : Int32) (s0 : Int32) (σ : Mem) (H : Heap) (locs : List Loc) (ls : Array Slot) (hw : Wd TM E σ s H locs) (hl : lv_has ls 16 [(0, .ref (E.2.1 (0))), (1, .int x1), (2, .int x2), (3, .int x3), (5, .long x5), (9, .int x9), (10, .int x10), (13, .int x13), (15, .int x15)]) (h : f_X12_run_206 k125 x1 x2 x3 x5 x9 x10 x13 x15 s0 σ = some (rr, τ)), W p l e { frames := 76, cells := 0, slots := 0, locals := 2316 } s m args below meth c H locs 0 0 (MQ below (QL TM E rr τ) args s 0 0 E.2.2.1) (F0 m 206 ls [.int s0]) := by
  obtain ⟨hx, hb, hml, hown, hts, hK, hSt, hlk, hr⟩ := id C
  intro x1 x2 x3 x5 x9 x10 x13 x15 s0 σ H locs ls hw hl h
  unfold f_X12_run_206 at h
  refine lv_istore (lv' := [(12, .int s0), (0, .ref (E.2.1 (0))), (1, .int x1), (2, .int x2), (3, .int x3), (5, .long x5), (9, .int x9), (10, .int x10), (13, .int x13), (15, .int x15)]) hx hb dX12_run_206 hl (by decide) rfl (fun ls hl => ?_)
  refine lv_lload hx hb dX12_run_208 (lv_at hl 5 rfl) ?_
  refine lv_iload hx hb dX12_run_210 (lv_at hl 0 rfl) ?_
  refine lv_if_eq (tgt := 226) hx hb dX12_run_212 (by decide) (fun c_48 => ?_) (fun c_48 => ?_)
  · replace h := it_at h c_48
    refine lv_lconst (v := 0) hx hb dX12_run_226 (by decide) ?_
    exact w_X12_run_227 C _ hk125 _ _ _ _ _ _ _ _ _ _ _ _ _ _ hw (lv_sub hl [1, 2, 3, 4, 6, 7, 0, 8, 9] rfl) h
  · replace h := ie_at h c_48
    refine lv_aload_n hx hb dX12_run_215 rfl (lv_at hl 1 rfl) ?_
    refine gf_12_17 C hw tM_0 kw_1035 dX12_run_216 ?_
    refine lv_iload hx hb dX12_run_219 (lv_at hl 9 rfl) ?_
    obtain ⟨g_49, h⟩ := gd_at h
    refine q_iald C hw tM_6 g_49 dX12_run_221 ?_
    refine lv_i2l hx hb dX12_run_222 rfl ?_
    refine lv_goto (tgt := 227) hx hb dX12_run_223 (by decide) ?_
    exact w_X12_run_227 C _ hk125 _ _ _ _ _ _ _ _ _ _ _ _ _ _ hw (lv_sub hl [1, 2, 3, 4, 6, 7, 0, 8, 9] rfl) h
set_option maxHeartbeats 4000000 in
set_option maxRecDepth 100000 in
theorem w_X12_run_125 {p : Program} {l : Launch} {e : Env} {s : State} {m : MethodId} {args : Array Value} {below : List Frame} {meth : Method} {c : Code} {E : EV} {rr : Int64} {τ : Mem} (C : Cx E p s m args meth c cX12_run 16 (some .long) RX12) : ∀ (n : Nat) (x1 : Int32) (x2 : Int32) (x3 : Int32) (x5 : Int64) (x7 : Int32) (x8 : Int32) (x9 : Int32) (x10 : Int32) (x11 : Int32) (x12 : Int32) (x13 : Int32) (σ : Mem) (H : Heap) (locs : List Loc) (ls : Array Slot) (hw : Wd TM E σ s H locs) (hl : lv_has ls 16 [(0, .ref (E.2.1 (0))), (1, .int x1), (2, .int x2), (3, .int x3), (5, .long x5), (7, .int x7), (8, .int x8), (9, .int x9), (10, .int x10), (11, .int x11), (12, .int x12), (13, .int x13)]) (h : fx12 (f_X12_run_125) n x1 x2 x3 x5 x7 x8 x9 x10 x11 x12 x13 σ = some (rr, τ)), W p l e { frames := 76, cells := 0, slots := 0, locals := 2316 } s m args below meth c H locs 0 0 (MQ below (QL TM E rr τ) args s 0 0 E.2.2.1) (F0 m 125 ls []) := by
  obtain ⟨hx, hb, hml, hown, hts, hK, hSt, hlk, hr⟩ := id C
  intro n
  induction n with
  | zero =>
    intro x1 x2 x3 x5 x7 x8 x9 x10 x11 x12 x13 σ H locs ls hw hl h
    have h : none = some (rr, τ) := h
    cases h
  | succ n hk125 =>
    intro x1 x2 x3 x5 x7 x8 x9 x10 x11 x12 x13 σ H locs ls hw hl h
    replace h : f_X12_run_125 (fx12 (f_X12_run_125) n) x1 x2 x3 x5 x7 x8 x9 x10 x11 x12 x13 σ = some (rr, τ) := h
    unfold f_X12_run_125 at h
    refine lv_iload hx hb dX12_run_125 (lv_at hl 11 rfl) ?_
    refine lv_iload_n hx hb dX12_run_127 rfl (lv_at hl 2 rfl) ?_
    refine lv_icmp_ge (tgt := 272) hx hb dX12_run_128 (by decide) (fun c_29 => ?_) (fun c_29 => ?_)
    · replace h := it_at h c_29
      exact w_X12_run_272 C _ _ _ _ _ _ _ _ _ hw (lv_sub hl [0, 2, 4, 5, 6, 10] rfl) h
    · replace h := ie_at h c_29
      refine lv_iload hx hb dX12_run_131 (lv_at hl 10 rfl) ?_
      refine lv_if_eq (tgt := 272) hx hb dX12_run_133 (by decide) (fun c_30 => ?_) (fun c_30 => ?_)
      · replace h := it_at h c_30
        exact w_X12_run_272 C _ _ _ _ _ _ _ _ _ hw (lv_sub hl [0, 2, 4, 5, 6, 10] rfl) h
      · replace h := ie_at h c_30
        refine lv_aload_n hx hb dX12_run_136 rfl (lv_at hl 0 rfl) ?_
        refine lv_aload_n hx hb dX12_run_137 rfl (lv_at hl 0 rfl) ?_
        refine gf_12_1 C hw tM_0 kw_1019 dX12_run_138 ?_
        refine lv_sipush (v := 887) hx hb dX12_run_141 (by decide) ?_
        refine lv_iload_n hx hb dX12_run_144 rfl (lv_at hl 1 rfl) ?_
        refine lv_iadd hx hb dX12_run_145 ?_
        obtain ⟨g_31, h⟩ := gd_at h
        refine q_iald C hw tM_1 g_31 dX12_run_146 ?_
        refine lv_aload_n hx hb dX12_run_147 rfl (lv_at hl 0 rfl) ?_
        refine gf_12_1 C hw tM_0 kw_1019 dX12_run_148 ?_
        refine lv_sipush (v := 897) hx hb dX12_run_151 (by decide) ?_
        refine lv_iload_n hx hb dX12_run_154 rfl (lv_at hl 1 rfl) ?_
        refine lv_iadd hx hb dX12_run_155 ?_
        obtain ⟨g_32, h⟩ := gd_at h
        refine q_iald C hw tM_1 g_32 dX12_run_156 ?_
        refine lv_iload_n hx hb dX12_run_157 rfl (lv_at hl 1 rfl) ?_
        refine lv_iload hx hb dX12_run_158 (lv_at hl 11 rfl) ?_
        refine lv_iload_n hx hb dX12_run_160 rfl (lv_at hl 2 rfl) ?_
        refine lv_iload hx hb dX12_run_161 (lv_at hl 11 rfl) ?_
        refine lv_isub hx hb dX12_run_163 ?_
        refine lv_iload hx hb dX12_run_164 (lv_at hl 8 rfl) ?_
        refine lv_iload hx hb dX12_run_166 (lv_at hl 9 rfl) ?_
        refine lv_iload hx hb dX12_run_168 (lv_at hl 5 rfl) ?_
        refine lv_iload hx hb dX12_run_170 (lv_at hl 6 rfl) ?_
        obtain ⟨r_33, σ_34, h_35, h⟩ := bd_at h
        refine q_afterI hw (q_runV C hw hl.1 (As := [.int (gI σ 1 ((887 : Int32) + x1).toNatClampNeg), .int (gI σ 1 ((897 : Int32) + x1).toNatClampNeg), .int x1, .int x13, .int (x2 - x13), .int x10, .int x11, .int x7, .int x8]) (rest := []) (m_X12_settingOf l E (gI σ 1 ((887 : Int32) + x1).toNatClampNeg) (gI σ 1 ((897 : Int32) + x1).toNatClampNeg) x1 x13 (x2 - x13) x10 x11 x7 x8 σ r_33 σ_34 h_35) yq_X12_settingOf tM_0 rfl rfl kw_1279 ⟨Nat.le_of_ble_eq_true rfl, Nat.le_of_ble_eq_true rfl⟩ rfl (Nat.le_of_ble_eq_true rfl) ⟨Nat.zero_le _, Nat.zero_le _⟩ dX12_run_172) (fun H locs hw => ?_)
        refine lv_istore (lv' := [(14, .int r_33), (0, .ref (E.2.1 (0))), (1, .int x1), (2, .int x2), (3, .int x3), (5, .long x5), (7, .int x7), (8, .int x8), (9, .int x9), (10, .int x10), (11, .int x11), (12, .int x12), (13, .int x13)]) hx hb dX12_run_175 hl (by decide) rfl (fun ls hl => ?_)
        refine lv_aload_n hx hb dX12_run_177 rfl (lv_at hl 1 rfl) ?_
        refine lv_iload hx hb dX12_run_178 (lv_at hl 9 rfl) ?_
        refine lv_iload hx hb dX12_run_180 (lv_at hl 0 rfl) ?_
        refine lv_iload hx hb dX12_run_182 (lv_at hl 6 rfl) ?_
        refine lv_iload hx hb dX12_run_184 (lv_at hl 7 rfl) ?_
        obtain ⟨r_36, σ_37, h_38, h⟩ := bd_at h
        refine q_afterI hw (q_runV C hw hl.1 (As := [.int x10, .int r_33, .int x7, .int x8]) (rest := []) (m_X12_hourPlace l E x10 r_33 x7 x8 σ_34 r_36 σ_37 h_38) yq_X12_hourPlace tM_0 rfl rfl kw_1287 ⟨Nat.le_of_ble_eq_true rfl, Nat.le_of_ble_eq_true rfl⟩ rfl (Nat.le_of_ble_eq_true rfl) ⟨Nat.zero_le _, Nat.zero_le _⟩ dX12_run_186) (fun H locs hw => ?_)
        refine lv_istore (lv' := [(15, .int r_36), (14, .int r_33), (0, .ref (E.2.1 (0))), (1, .int x1), (2, .int x2), (3, .int x3), (5, .long x5), (7, .int x7), (8, .int x8), (9, .int x9), (10, .int x10), (11, .int x11), (12, .int x12), (13, .int x13)]) hx hb dX12_run_189 hl (by decide) rfl (fun ls hl => ?_)
        refine lv_aload_n hx hb dX12_run_191 rfl (lv_at hl 2 rfl) ?_
        refine gf_12_17 C hw tM_0 kw_1035 dX12_run_192 ?_
        refine lv_iload hx hb dX12_run_195 (lv_at hl 0 rfl) ?_
        obtain ⟨g_39, h⟩ := gd_at h
        refine q_iald C hw tM_6 g_39 dX12_run_197 ?_
        refine lv_if_lt (tgt := 205) hx hb dX12_run_198 (by decide) (fun c_40 => ?_) (fun c_40 => ?_)
        · replace h := it_at h c_40
          refine lv_iconst (v := 0) hx hb dX12_run_205 (by decide) ?_
          exact w_X12_run_206 C _ hk125 _ _ _ _ _ _ _ _ _ _ _ _ _ hw (lv_sub hl [2, 3, 4, 5, 6, 9, 10, 13, 0] rfl) h
        · replace h := ie_at h c_40
          refine lv_iconst (v := 1) hx hb dX12_run_201 (by decide) ?_
          refine lv_goto (tgt := 206) hx hb dX12_run_202 (by decide) ?_
          exact w_X12_run_206 C _ hk125 _ _ _ _ _ _ _ _ _ _ _ _ _ hw (lv_sub hl [2, 3, 4, 5, 6, 9, 10, 13, 0] rfl) h
set_option maxHeartbeats 4000000 in
set_option maxRecDepth 100000 in
theorem w_X12_run_120 {p : Program} {l : Launch} {e : Env} {s : State} {m : MethodId} {args : Array Value} {below : List Frame} {meth : Method} {c : Code} {E : EV} {rr : Int64} {τ : Mem} (C : Cx E p s m args meth c cX12_run 16 (some .long) RX12) : ∀ (x1 : Int32) (x2 : Int32) (x3 : Int32) (x5 : Int64) (x7 : Int32) (x8 : Int32) (x9 : Int32) (x10 : Int32) (x11 : Int32) (s0 : Int32) (σ : Mem) (H : Heap) (locs : List Loc) (ls : Array Slot) (hw : Wd TM E σ s H locs) (hl : lv_has ls 16 [(0, .ref (E.2.1 (0))), (1, .int x1), (2, .int x2), (3, .int x3), (5, .long x5), (7, .int x7), (8, .int x8), (9, .int x9), (10, .int x10), (11, .int x11)]) (h : f_X12_run_120 x1 x2 x3 x5 x7 x8 x9 x10 x11 s0 σ = some (rr, τ)), W p l e { frames := 76, cells := 0, slots := 0, locals := 2316 } s m args below meth c H locs 0 0 (MQ below (QL TM E rr τ) args s 0 0 E.2.2.1) (F0 m 120 ls [.int s0]) := by
  obtain ⟨hx, hb, hml, hown, hts, hK, hSt, hlk, hr⟩ := id C
  intro x1 x2 x3 x5 x7 x8 x9 x10 x11 s0 σ H locs ls hw hl h
  unfold f_X12_run_120 at h
  refine lv_istore (lv' := [(12, .int s0), (0, .ref (E.2.1 (0))), (1, .int x1), (2, .int x2), (3, .int x3), (5, .long x5), (7, .int x7), (8, .int x8), (9, .int x9), (10, .int x10), (11, .int x11)]) hx hb dX12_run_120 hl (by decide) rfl (fun ls hl => ?_)
  refine lv_iconst (v := 0) hx hb dX12_run_122 (by decide) ?_
  refine lv_istore (lv' := [(13, .int (0 : Int32)), (12, .int s0), (0, .ref (E.2.1 (0))), (1, .int x1), (2, .int x2), (3, .int x3), (5, .long x5), (7, .int x7), (8, .int x8), (9, .int x9), (10, .int x10), (11, .int x11)]) hx hb dX12_run_123 hl (by decide) rfl (fun ls hl => ?_)
  exact w_X12_run_125 C _ _ _ _ _ _ _ _ _ _ _ _ _ _ _ _ hw (lv_sub hl [2, 3, 4, 5, 6, 7, 8, 9, 10, 11, 1, 0] rfl) h
set_option maxHeartbeats 4000000 in
set_option maxRecDepth 100000 in
theorem m_X12_run (l : Launch) (E : EV) (p1 : Int32) (p2 : Int32) (p3 : Int32) (p4 : Int32) (σ : Mem) (rr : Int64) (τ : Mem) (h : f_X12_run p1 p2 p3 p4 σ = some (rr, τ)) : ML TM l E yX12_run cX12_run 16 (some .long) 76 2316 [.ref (E.2.1 (0)), .int p1, .int p2, .int p3, .int p4] σ rr τ := by
  refine mt_start RX12 (by decide +kernel) rfl (Nat.le_of_ble_eq_true rfl) (fun p e s m args below meth c ls C hw hl => ?_)
  replace hl : lv_has ls 16 [(0, .ref (E.2.1 (0))), (1, .int p1), (2, .int p2), (3, .int p3), (4, .int p4)] := hl
  obtain ⟨hx, hb, hml, hown, hts, hK, hSt, hlk, hr⟩ := id C
  unfold f_X12_run at h
  refine lv_aload_n hx hb dX12_run_0 rfl (lv_at hl 0 rfl) ?_
  refine lv_iload_n hx hb dX12_run_1 rfl (lv_at hl 1 rfl) ?_
  obtain ⟨r_1, σ_2, h_3, h⟩ := bd_at h
  refine q_afterI hw (q_runV C hw hl.1 (As := [.int p1]) (rest := []) (m_X12_isRule l E p1 σ r_1 σ_2 h_3) yq_X12_isRule tM_0 rfl rfl kw_1267 ⟨Nat.le_of_ble_eq_true rfl, Nat.le_of_ble_eq_true rfl⟩ rfl (Nat.le_of_ble_eq_true rfl) ⟨Nat.zero_le _, Nat.zero_le _⟩ dX12_run_2) (fun H locs hw => ?_)
  refine lv_if_eq (tgt := 59) hx hb dX12_run_5 (by decide) (fun c_4 => ?_) (fun c_4 => ?_)
  · replace h := it_at h c_4
    refine lv_ldc2 hx hb hown (hts _ kw_1312) dX12_run_59 ?_
    obtain ⟨rfl, rfl⟩ := ret_at h
    exact q_lret C hw dX12_run_62
  · replace h := ie_at h c_4
    refine lv_iload_n hx hb dX12_run_8 rfl (lv_at hl 2 rfl) ?_
    refine lv_iconst (v := 1) hx hb dX12_run_9 (by decide) ?_
    refine lv_bipush (v := 30) hx hb dX12_run_10 (by decide) ?_
    obtain ⟨r_5, σ_6, h_7, h⟩ := bd_at h
    refine q_afterI hw (q_runS C hw hl.1 (As := [.int p2, .int (1 : Int32), .int (30 : Int32)]) (rest := []) (m_X12_in l E p2 (1 : Int32) (30 : Int32) σ_2 r_5 σ_6 h_7) yq_X12_in kw_1142 ⟨Nat.le_of_ble_eq_true rfl, Nat.le_of_ble_eq_true rfl⟩ rfl (Nat.le_of_ble_eq_true rfl) ⟨Nat.zero_le _, Nat.zero_le _⟩ dX12_run_12) (fun H locs hw => ?_)
    refine lv_if_eq (tgt := 59) hx hb dX12_run_15 (by decide) (fun c_8 => ?_) (fun c_8 => ?_)
    · replace h := it_at h c_8
      refine lv_ldc2 hx hb hown (hts _ kw_1312) dX12_run_59 ?_
      obtain ⟨rfl, rfl⟩ := ret_at h
      exact q_lret C hw dX12_run_62
    · replace h := ie_at h c_8
      refine lv_iload_n hx hb dX12_run_18 rfl (lv_at hl 3 rfl) ?_
      refine lv_iconst (v := 0) hx hb dX12_run_19 (by decide) ?_
      refine lv_sipush (v := 999) hx hb dX12_run_20 (by decide) ?_
      obtain ⟨r_9, σ_10, h_11, h⟩ := bd_at h
      refine q_afterI hw (q_runS C hw hl.1 (As := [.int p3, .int (0 : Int32), .int (999 : Int32)]) (rest := []) (m_X12_in l E p3 (0 : Int32) (999 : Int32) σ_6 r_9 σ_10 h_11) yq_X12_in kw_1142 ⟨Nat.le_of_ble_eq_true rfl, Nat.le_of_ble_eq_true rfl⟩ rfl (Nat.le_of_ble_eq_true rfl) ⟨Nat.zero_le _, Nat.zero_le _⟩ dX12_run_23) (fun H locs hw => ?_)
      refine lv_if_eq (tgt := 59) hx hb dX12_run_26 (by decide) (fun c_12 => ?_) (fun c_12 => ?_)
      · replace h := it_at h c_12
        refine lv_ldc2 hx hb hown (hts _ kw_1312) dX12_run_59 ?_
        obtain ⟨rfl, rfl⟩ := ret_at h
        exact q_lret C hw dX12_run_62
      · replace h := ie_at h c_12
        refine lv_iload hx hb dX12_run_29 (lv_at hl 4 rfl) ?_
        obtain ⟨r_13, σ_14, h_15, h⟩ := bd_at h
        refine q_afterI hw (q_runS C hw hl.1 (As := [.int p4]) (rest := []) (m_X12_isWind l E p4 σ_10 r_13 σ_14 h_15) yq_X12_isWind kw_1217 ⟨Nat.le_of_ble_eq_true rfl, Nat.le_of_ble_eq_true rfl⟩ rfl (Nat.le_of_ble_eq_true rfl) ⟨Nat.zero_le _, Nat.zero_le _⟩ dX12_run_31) (fun H locs hw => ?_)
        refine lv_if_eq (tgt := 59) hx hb dX12_run_34 (by decide) (fun c_16 => ?_) (fun c_16 => ?_)
        · replace h := it_at h c_16
          refine lv_ldc2 hx hb hown (hts _ kw_1312) dX12_run_59 ?_
          obtain ⟨rfl, rfl⟩ := ret_at h
          exact q_lret C hw dX12_run_62
        · replace h := ie_at h c_16
          refine lv_aload_n hx hb dX12_run_37 rfl (lv_at hl 0 rfl) ?_
          obtain ⟨r_17, σ_18, h_19, h⟩ := bd_at h
          refine q_afterI hw (q_runV C hw hl.1 (As := []) (rest := []) (m_X12_isLed l E  σ_14 r_17 σ_18 h_19) yq_X12_isLed tM_0 rfl rfl kw_1251 ⟨Nat.le_of_ble_eq_true rfl, Nat.le_of_ble_eq_true rfl⟩ rfl (Nat.le_of_ble_eq_true rfl) ⟨Nat.zero_le _, Nat.zero_le _⟩ dX12_run_38) (fun H locs hw => ?_)
          refine lv_if_eq (tgt := 59) hx hb dX12_run_41 (by decide) (fun c_20 => ?_) (fun c_20 => ?_)
          · replace h := it_at h c_20
            refine lv_ldc2 hx hb hown (hts _ kw_1312) dX12_run_59 ?_
            obtain ⟨rfl, rfl⟩ := ret_at h
            exact q_lret C hw dX12_run_62
          · replace h := ie_at h c_20
            refine lv_aload_n hx hb dX12_run_44 rfl (lv_at hl 0 rfl) ?_
            refine gf_12_1 C hw tM_0 kw_1019 dX12_run_45 ?_
            refine lv_bipush (v := 6) hx hb dX12_run_48 (by decide) ?_
            refine q_ialdk C hw tM_1 (k := 6) (by rfl) (by decide) (by decide) dX12_run_50 ?_
            refine lv_iload_n hx hb dX12_run_51 rfl (lv_at hl 2 rfl) ?_
            refine lv_iadd hx hb dX12_run_52 ?_
            refine lv_sipush (v := 999) hx hb dX12_run_53 (by decide) ?_
            refine lv_icmp_le (tgt := 63) hx hb dX12_run_56 (by decide) (fun c_21 => ?_) (fun c_21 => ?_)
            · replace h := it_at h c_21
              refine lv_aload_n hx hb dX12_run_63 rfl (lv_at hl 0 rfl) ?_
              obtain ⟨σ_23, h_24, h⟩ := bv_at h
              refine q_afterV hw (q_runV C hw hl.1 (As := []) (rest := []) (m_X12_begins l E  σ_18 σ_23 h_24) yq_X12_begins tM_0 rfl rfl kw_1275 ⟨Nat.le_of_ble_eq_true rfl, Nat.le_of_ble_eq_true rfl⟩ rfl (Nat.le_of_ble_eq_true rfl) ⟨Nat.zero_le _, Nat.zero_le _⟩ dX12_run_64) (fun H locs hw => ?_)
              refine lv_lconst (v := 0) hx hb dX12_run_67 (by decide) ?_
              refine lv_lstore (lv' := [(5, .long (0 : Int64)), (0, .ref (E.2.1 (0))), (1, .int p1), (2, .int p2), (3, .int p3), (4, .int p4)]) hx hb dX12_run_68 hl (by decide) rfl (fun ls hl => ?_)
              refine lv_aload_n hx hb dX12_run_70 rfl (lv_at hl 1 rfl) ?_
              refine gf_12_1 C hw tM_0 kw_1019 dX12_run_71 ?_
              refine lv_bipush (v := 7) hx hb dX12_run_74 (by decide) ?_
              refine q_ialdk C hw tM_1 (k := 7) (by rfl) (by decide) (by decide) dX12_run_76 ?_
              obtain ⟨x7_25, ex7_25, h⟩ := lt_at h
              refine q_top ex7_25 ?_
              refine lv_istore (lv' := [(7, .int x7_25), (5, .long (0 : Int64)), (0, .ref (E.2.1 (0))), (1, .int p1), (2, .int p2), (3, .int p3), (4, .int p4)]) hx hb dX12_run_77 hl (by decide) rfl (fun ls hl => ?_)
              refine lv_aload_n hx hb dX12_run_79 rfl (lv_at hl 2 rfl) ?_
              refine gf_12_1 C hw tM_0 kw_1019 dX12_run_80 ?_
              refine lv_bipush (v := 8) hx hb dX12_run_83 (by decide) ?_
              refine q_ialdk C hw tM_1 (k := 8) (by rfl) (by decide) (by decide) dX12_run_85 ?_
              obtain ⟨x8_26, ex8_26, h⟩ := lt_at h
              refine q_top ex8_26 ?_
              refine lv_istore (lv' := [(8, .int x8_26), (7, .int x7_25), (5, .long (0 : Int64)), (0, .ref (E.2.1 (0))), (1, .int p1), (2, .int p2), (3, .int p3), (4, .int p4)]) hx hb dX12_run_86 hl (by decide) rfl (fun ls hl => ?_)
              refine lv_aload_n hx hb dX12_run_88 rfl (lv_at hl 3 rfl) ?_
              refine gf_12_1 C hw tM_0 kw_1019 dX12_run_89 ?_
              refine lv_bipush (v := 6) hx hb dX12_run_92 (by decide) ?_
              refine q_ialdk C hw tM_1 (k := 6) (by rfl) (by decide) (by decide) dX12_run_94 ?_
              obtain ⟨x9_27, ex9_27, h⟩ := lt_at h
              refine q_top ex9_27 ?_
              refine lv_istore (lv' := [(9, .int x9_27), (8, .int x8_26), (7, .int x7_25), (5, .long (0 : Int64)), (0, .ref (E.2.1 (0))), (1, .int p1), (2, .int p2), (3, .int p3), (4, .int p4)]) hx hb dX12_run_95 hl (by decide) rfl (fun ls hl => ?_)
              refine lv_iload hx hb dX12_run_97 (lv_at hl 8 rfl) ?_
              refine lv_istore (lv' := [(10, .int p4), (9, .int x9_27), (8, .int x8_26), (7, .int x7_25), (5, .long (0 : Int64)), (0, .ref (E.2.1 (0))), (1, .int p1), (2, .int p2), (3, .int p3), (4, .int p4)]) hx hb dX12_run_99 hl (by decide) rfl (fun ls hl => ?_)
              refine lv_iload hx hb dX12_run_101 (lv_at hl 9 rfl) ?_
              refine lv_istore (lv' := [(11, .int p4), (10, .int p4), (9, .int x9_27), (8, .int x8_26), (7, .int x7_25), (5, .long (0 : Int64)), (0, .ref (E.2.1 (0))), (1, .int p1), (2, .int p2), (3, .int p3), (4, .int p4)]) hx hb dX12_run_103 hl (by decide) rfl (fun ls hl => ?_)
              refine lv_aload_n hx hb dX12_run_105 rfl (lv_at hl 6 rfl) ?_
              refine gf_12_1 C hw tM_0 kw_1019 dX12_run_106 ?_
              refine lv_bipush (v := 10) hx hb dX12_run_109 (by decide) ?_
              refine q_ialdk C hw tM_1 (k := 10) (by rfl) (by decide) (by decide) dX12_run_111 ?_
              refine lv_if_ne (tgt := 119) hx hb dX12_run_112 (by decide) (fun c_28 => ?_) (fun c_28 => ?_)
              · replace h := ie_at h c_28
                refine lv_iconst (v := 0) hx hb dX12_run_119 (by decide) ?_
                exact w_X12_run_120 C _ _ _ _ _ _ _ _ _ _ _ _ _ _ hw (lv_sub hl [6, 7, 8, 9, 5, 4, 3, 2, 1, 0] rfl) h
              · replace h := it_at h c_28
                refine lv_iconst (v := 1) hx hb dX12_run_115 (by decide) ?_
                refine lv_goto (tgt := 120) hx hb dX12_run_116 (by decide) ?_
                exact w_X12_run_120 C _ _ _ _ _ _ _ _ _ _ _ _ _ _ hw (lv_sub hl [6, 7, 8, 9, 5, 4, 3, 2, 1, 0] rfl) h
            · replace h := ie_at h c_21
              refine lv_ldc2 hx hb hown (hts _ kw_1312) dX12_run_59 ?_
              obtain ⟨rfl, rfl⟩ := ret_at h
              exact q_lret C hw dX12_run_62
def f_X12_sets (p1 : Int32) (p2 : Int32) (p3 : Int32) (p4 : Int32) (p5 : Int32) (σ : Mem) : Option (Int32 × Mem) :=
  bd (f_X12_isRule p1 σ) fun r_1 σ_2 =>
  if r_1 = 0 then
    (some ((-1 : Int32), σ_2))
  else
    bd (f_X12_isWind p4 σ_2) fun r_5 σ_6 =>
    if r_5 = 0 then
      (some ((-1 : Int32), σ_6))
    else
      bd (f_X12_isWind p5 σ_6) fun r_9 σ_10 =>
      if r_9 = 0 then
        (some ((-1 : Int32), σ_10))
      else
        bd (f_X12_in p2 (0 : Int32) (9 : Int32) σ_10) fun r_13 σ_14 =>
        if r_13 = 0 then
          (some ((-2 : Int32), σ_14))
        else
          bd (f_X12_in p3 (1 : Int32) (6 : Int32) σ_14) fun r_17 σ_18 =>
          if r_17 = 0 then
            (some ((-2 : Int32), σ_18))
          else
            bd (f_X12_isLed σ_18) fun r_21 σ_22 =>
            if r_21 = 0 then
              (some ((-3 : Int32), σ_22))
            else
              bv (f_X12_begins σ_22) fun σ_26 =>
              gd (ib ((887 : Int32) + p1) 1055) <|
              gd (ib ((897 : Int32) + p1) 1055) <|
              bd (f_X12_settingOf (gI σ_26 1 ((887 : Int32) + p1).toNatClampNeg) (gI σ_26 1 ((897 : Int32) + p1).toNatClampNeg) p1 p2 p3 p4 p5 (gI σ_26 1 7) (gI σ_26 1 8) σ_26) fun r_30 σ_31 =>
              some (r_30, σ_31)
set_option maxHeartbeats 4000000 in
set_option maxRecDepth 100000 in
theorem m_X12_sets (l : Launch) (E : EV) (p1 : Int32) (p2 : Int32) (p3 : Int32) (p4 : Int32) (p5 : Int32) (σ : Mem) (rr : Int32) (τ : Mem) (h : f_X12_sets p1 p2 p3 p4 p5 σ = some (rr, τ)) : MI TM l E yX12_sets cX12_sets 6 (some .int) 76 2316 [.ref (E.2.1 (0)), .int p1, .int p2, .int p3, .int p4, .int p5] σ rr τ := by
  refine mt_start RX12 (by decide +kernel) rfl (Nat.le_of_ble_eq_true rfl) (fun p e s m args below meth c ls C hw hl => ?_)
  replace hl : lv_has ls 6 [(0, .ref (E.2.1 (0))), (1, .int p1), (2, .int p2), (3, .int p3), (4, .int p4), (5, .int p5)] := hl
  obtain ⟨hx, hb, hml, hown, hts, hK, hSt, hlk, hr⟩ := id C
  unfold f_X12_sets at h
  refine lv_aload_n hx hb dX12_sets_0 rfl (lv_at hl 0 rfl) ?_
  refine lv_iload_n hx hb dX12_sets_1 rfl (lv_at hl 1 rfl) ?_
  obtain ⟨r_1, σ_2, h_3, h⟩ := bd_at h
  refine q_afterI hw (q_runV C hw hl.1 (As := [.int p1]) (rest := []) (m_X12_isRule l E p1 σ r_1 σ_2 h_3) yq_X12_isRule tM_0 rfl rfl kw_1267 ⟨Nat.le_of_ble_eq_true rfl, Nat.le_of_ble_eq_true rfl⟩ rfl (Nat.le_of_ble_eq_true rfl) ⟨Nat.zero_le _, Nat.zero_le _⟩ dX12_sets_2) (fun H locs hw => ?_)
  refine lv_if_eq (tgt := 24) hx hb dX12_sets_5 (by decide) (fun c_4 => ?_) (fun c_4 => ?_)
  · replace h := it_at h c_4
    refine lv_iconst (v := (-1)) hx hb dX12_sets_24 (by decide) ?_
    obtain ⟨rfl, rfl⟩ := ret_at h
    exact q_iret C hw dX12_sets_25
  · replace h := ie_at h c_4
    refine lv_iload hx hb dX12_sets_8 (lv_at hl 4 rfl) ?_
    obtain ⟨r_5, σ_6, h_7, h⟩ := bd_at h
    refine q_afterI hw (q_runS C hw hl.1 (As := [.int p4]) (rest := []) (m_X12_isWind l E p4 σ_2 r_5 σ_6 h_7) yq_X12_isWind kw_1217 ⟨Nat.le_of_ble_eq_true rfl, Nat.le_of_ble_eq_true rfl⟩ rfl (Nat.le_of_ble_eq_true rfl) ⟨Nat.zero_le _, Nat.zero_le _⟩ dX12_sets_10) (fun H locs hw => ?_)
    refine lv_if_eq (tgt := 24) hx hb dX12_sets_13 (by decide) (fun c_8 => ?_) (fun c_8 => ?_)
    · replace h := it_at h c_8
      refine lv_iconst (v := (-1)) hx hb dX12_sets_24 (by decide) ?_
      obtain ⟨rfl, rfl⟩ := ret_at h
      exact q_iret C hw dX12_sets_25
    · replace h := ie_at h c_8
      refine lv_iload hx hb dX12_sets_16 (lv_at hl 5 rfl) ?_
      obtain ⟨r_9, σ_10, h_11, h⟩ := bd_at h
      refine q_afterI hw (q_runS C hw hl.1 (As := [.int p5]) (rest := []) (m_X12_isWind l E p5 σ_6 r_9 σ_10 h_11) yq_X12_isWind kw_1217 ⟨Nat.le_of_ble_eq_true rfl, Nat.le_of_ble_eq_true rfl⟩ rfl (Nat.le_of_ble_eq_true rfl) ⟨Nat.zero_le _, Nat.zero_le _⟩ dX12_sets_18) (fun H locs hw => ?_)
      refine lv_if_ne (tgt := 26) hx hb dX12_sets_21 (by decide) (fun c_12 => ?_) (fun c_12 => ?_)
      · replace h := ie_at h c_12
        refine lv_iload_n hx hb dX12_sets_26 rfl (lv_at hl 2 rfl) ?_
        refine lv_iconst (v := 0) hx hb dX12_sets_27 (by decide) ?_
        refine lv_bipush (v := 9) hx hb dX12_sets_28 (by decide) ?_
        obtain ⟨r_13, σ_14, h_15, h⟩ := bd_at h
        refine q_afterI hw (q_runS C hw hl.1 (As := [.int p2, .int (0 : Int32), .int (9 : Int32)]) (rest := []) (m_X12_in l E p2 (0 : Int32) (9 : Int32) σ_10 r_13 σ_14 h_15) yq_X12_in kw_1142 ⟨Nat.le_of_ble_eq_true rfl, Nat.le_of_ble_eq_true rfl⟩ rfl (Nat.le_of_ble_eq_true rfl) ⟨Nat.zero_le _, Nat.zero_le _⟩ dX12_sets_30) (fun H locs hw => ?_)
        refine lv_if_eq (tgt := 46) hx hb dX12_sets_33 (by decide) (fun c_16 => ?_) (fun c_16 => ?_)
        · replace h := it_at h c_16
          refine lv_bipush (v := (-2)) hx hb dX12_sets_46 (by decide) ?_
          obtain ⟨rfl, rfl⟩ := ret_at h
          exact q_iret C hw dX12_sets_48
        · replace h := ie_at h c_16
          refine lv_iload_n hx hb dX12_sets_36 rfl (lv_at hl 3 rfl) ?_
          refine lv_iconst (v := 1) hx hb dX12_sets_37 (by decide) ?_
          refine lv_bipush (v := 6) hx hb dX12_sets_38 (by decide) ?_
          obtain ⟨r_17, σ_18, h_19, h⟩ := bd_at h
          refine q_afterI hw (q_runS C hw hl.1 (As := [.int p3, .int (1 : Int32), .int (6 : Int32)]) (rest := []) (m_X12_in l E p3 (1 : Int32) (6 : Int32) σ_14 r_17 σ_18 h_19) yq_X12_in kw_1142 ⟨Nat.le_of_ble_eq_true rfl, Nat.le_of_ble_eq_true rfl⟩ rfl (Nat.le_of_ble_eq_true rfl) ⟨Nat.zero_le _, Nat.zero_le _⟩ dX12_sets_40) (fun H locs hw => ?_)
          refine lv_if_ne (tgt := 49) hx hb dX12_sets_43 (by decide) (fun c_20 => ?_) (fun c_20 => ?_)
          · replace h := ie_at h c_20
            refine lv_aload_n hx hb dX12_sets_49 rfl (lv_at hl 0 rfl) ?_
            obtain ⟨r_21, σ_22, h_23, h⟩ := bd_at h
            refine q_afterI hw (q_runV C hw hl.1 (As := []) (rest := []) (m_X12_isLed l E  σ_18 r_21 σ_22 h_23) yq_X12_isLed tM_0 rfl rfl kw_1251 ⟨Nat.le_of_ble_eq_true rfl, Nat.le_of_ble_eq_true rfl⟩ rfl (Nat.le_of_ble_eq_true rfl) ⟨Nat.zero_le _, Nat.zero_le _⟩ dX12_sets_50) (fun H locs hw => ?_)
            refine lv_if_ne (tgt := 59) hx hb dX12_sets_53 (by decide) (fun c_24 => ?_) (fun c_24 => ?_)
            · replace h := ie_at h c_24
              refine lv_aload_n hx hb dX12_sets_59 rfl (lv_at hl 0 rfl) ?_
              obtain ⟨σ_26, h_27, h⟩ := bv_at h
              refine q_afterV hw (q_runV C hw hl.1 (As := []) (rest := []) (m_X12_begins l E  σ_22 σ_26 h_27) yq_X12_begins tM_0 rfl rfl kw_1275 ⟨Nat.le_of_ble_eq_true rfl, Nat.le_of_ble_eq_true rfl⟩ rfl (Nat.le_of_ble_eq_true rfl) ⟨Nat.zero_le _, Nat.zero_le _⟩ dX12_sets_60) (fun H locs hw => ?_)
              refine lv_aload_n hx hb dX12_sets_63 rfl (lv_at hl 0 rfl) ?_
              refine lv_aload_n hx hb dX12_sets_64 rfl (lv_at hl 0 rfl) ?_
              refine gf_12_1 C hw tM_0 kw_1019 dX12_sets_65 ?_
              refine lv_sipush (v := 887) hx hb dX12_sets_68 (by decide) ?_
              refine lv_iload_n hx hb dX12_sets_71 rfl (lv_at hl 1 rfl) ?_
              refine lv_iadd hx hb dX12_sets_72 ?_
              obtain ⟨g_28, h⟩ := gd_at h
              refine q_iald C hw tM_1 g_28 dX12_sets_73 ?_
              refine lv_aload_n hx hb dX12_sets_74 rfl (lv_at hl 0 rfl) ?_
              refine gf_12_1 C hw tM_0 kw_1019 dX12_sets_75 ?_
              refine lv_sipush (v := 897) hx hb dX12_sets_78 (by decide) ?_
              refine lv_iload_n hx hb dX12_sets_81 rfl (lv_at hl 1 rfl) ?_
              refine lv_iadd hx hb dX12_sets_82 ?_
              obtain ⟨g_29, h⟩ := gd_at h
              refine q_iald C hw tM_1 g_29 dX12_sets_83 ?_
              refine lv_iload_n hx hb dX12_sets_84 rfl (lv_at hl 1 rfl) ?_
              refine lv_iload_n hx hb dX12_sets_85 rfl (lv_at hl 2 rfl) ?_
              refine lv_iload_n hx hb dX12_sets_86 rfl (lv_at hl 3 rfl) ?_
              refine lv_iload hx hb dX12_sets_87 (lv_at hl 4 rfl) ?_
              refine lv_iload hx hb dX12_sets_89 (lv_at hl 5 rfl) ?_
              refine lv_aload_n hx hb dX12_sets_91 rfl (lv_at hl 0 rfl) ?_
              refine gf_12_1 C hw tM_0 kw_1019 dX12_sets_92 ?_
              refine lv_bipush (v := 7) hx hb dX12_sets_95 (by decide) ?_
              refine q_ialdk C hw tM_1 (k := 7) (by rfl) (by decide) (by decide) dX12_sets_97 ?_
              refine lv_aload_n hx hb dX12_sets_98 rfl (lv_at hl 0 rfl) ?_
              refine gf_12_1 C hw tM_0 kw_1019 dX12_sets_99 ?_
              refine lv_bipush (v := 8) hx hb dX12_sets_102 (by decide) ?_
              refine q_ialdk C hw tM_1 (k := 8) (by rfl) (by decide) (by decide) dX12_sets_104 ?_
              obtain ⟨r_30, σ_31, h_32, h⟩ := bd_at h
              refine q_afterI hw (q_runV C hw hl.1 (As := [.int (gI σ_26 1 ((887 : Int32) + p1).toNatClampNeg), .int (gI σ_26 1 ((897 : Int32) + p1).toNatClampNeg), .int p1, .int p2, .int p3, .int p4, .int p5, .int (gI σ_26 1 7), .int (gI σ_26 1 8)]) (rest := []) (m_X12_settingOf l E (gI σ_26 1 ((887 : Int32) + p1).toNatClampNeg) (gI σ_26 1 ((897 : Int32) + p1).toNatClampNeg) p1 p2 p3 p4 p5 (gI σ_26 1 7) (gI σ_26 1 8) σ_26 r_30 σ_31 h_32) yq_X12_settingOf tM_0 rfl rfl kw_1279 ⟨Nat.le_of_ble_eq_true rfl, Nat.le_of_ble_eq_true rfl⟩ rfl (Nat.le_of_ble_eq_true rfl) ⟨Nat.zero_le _, Nat.zero_le _⟩ dX12_sets_105) (fun H locs hw => ?_)
              obtain ⟨rfl, rfl⟩ := ret_at h
              exact q_iret C hw dX12_sets_108
            · replace h := it_at h c_24
              refine lv_bipush (v := (-3)) hx hb dX12_sets_56 (by decide) ?_
              obtain ⟨rfl, rfl⟩ := ret_at h
              exact q_iret C hw dX12_sets_58
          · replace h := it_at h c_20
            refine lv_bipush (v := (-2)) hx hb dX12_sets_46 (by decide) ?_
            obtain ⟨rfl, rfl⟩ := ret_at h
            exact q_iret C hw dX12_sets_48
      · replace h := it_at h c_12
        refine lv_iconst (v := (-1)) hx hb dX12_sets_24 (by decide) ?_
        obtain ⟨rfl, rfl⟩ := ret_at h
        exact q_iret C hw dX12_sets_25
