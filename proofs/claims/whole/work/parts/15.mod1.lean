def f_X12_isUnder_34 (x0 : Int32) (x1 : Int32) (σ : Mem) : Option (Int32 × Mem) :=
  if x1 = (1 : Int32) then
    (if x0 = (6 : Int32) then
      (some ((1 : Int32), σ))
    else
      some ((0 : Int32), σ))
  else
    some ((0 : Int32), σ)
def f_X12_isUnder_24 (x0 : Int32) (x1 : Int32) (σ : Mem) : Option (Int32 × Mem) :=
  if x1 = (4 : Int32) then
    (if x0 = (5 : Int32) then
      (some ((1 : Int32), σ))
    else
      f_X12_isUnder_34 x0 x1 σ)
  else
    f_X12_isUnder_34 x0 x1 σ
def f_X12_isUnder (p0 : Int32) (p1 : Int32) (σ : Mem) : Option (Int32 × Mem) :=
  if p1 = 0 then
    (some ((1 : Int32), σ))
  else
    if p1 = p0 then
      (some ((1 : Int32), σ))
    else
      if p1 = (3 : Int32) then
        (if p0 = (4 : Int32) then
          (some ((1 : Int32), σ))
        else
          if p0 = (5 : Int32) then
            (some ((1 : Int32), σ))
          else
            f_X12_isUnder_24 p0 p1 σ)
      else
        f_X12_isUnder_24 p0 p1 σ
set_option maxHeartbeats 4000000 in
set_option maxRecDepth 100000 in
theorem w_X12_isUnder_34 {p : Program} {l : Launch} {e : Env} {s : State} {m : MethodId} {args : Array Value} {below : List Frame} {meth : Method} {c : Code} {E : EV} {rr : Int32} {τ : Mem} (C : Cx E p s m args meth c cX12_isUnder 2 (some .boolean) RX12) : ∀ (x0 : Int32) (x1 : Int32) (σ : Mem) (H : Heap) (locs : List Loc) (ls : Array Slot) (hw : Wd TM E σ s H locs) (hl : lv_has ls 2 [(0, .int x0), (1, .int x1)]) (h : f_X12_isUnder_34 x0 x1 σ = some (rr, τ)), W p l e { frames := 0, cells := 0, slots := 0, locals := 0 } s m args below meth c H locs 0 0 (MQ below (QI TM E rr τ) args s 0 0 E.2.2.1) (F0 m 34 ls []) := by
  obtain ⟨hx, hb, hml, hown, hts, hK, hSt, hlk, hr⟩ := id C
  intro x0 x1 σ H locs ls hw hl h
  unfold f_X12_isUnder_34 at h
  refine lv_iload_n hx hb dX12_isUnder_34 rfl (lv_at hl 1 rfl) ?_
  refine lv_iconst (v := 1) hx hb dX12_isUnder_35 (by decide) ?_
  refine lv_icmp_ne (tgt := 49) hx hb dX12_isUnder_36 (by decide) (fun c_8 => ?_) (fun c_8 => ?_)
  · replace h := ie_at h c_8
    refine lv_iconst (v := 0) hx hb dX12_isUnder_49 (by decide) ?_
    obtain ⟨rfl, rfl⟩ := ret_at h
    exact q_zret C (by decide) hw dX12_isUnder_50
  · replace h := it_at h c_8
    refine lv_iload_n hx hb dX12_isUnder_39 rfl (lv_at hl 0 rfl) ?_
    refine lv_bipush (v := 6) hx hb dX12_isUnder_40 (by decide) ?_
    refine lv_icmp_ne (tgt := 49) hx hb dX12_isUnder_42 (by decide) (fun c_9 => ?_) (fun c_9 => ?_)
    · replace h := ie_at h c_9
      refine lv_iconst (v := 0) hx hb dX12_isUnder_49 (by decide) ?_
      obtain ⟨rfl, rfl⟩ := ret_at h
      exact q_zret C (by decide) hw dX12_isUnder_50
    · replace h := it_at h c_9
      refine lv_iconst (v := 1) hx hb dX12_isUnder_45 (by decide) ?_
      refine lv_goto (tgt := 50) hx hb dX12_isUnder_46 (by decide) ?_
      obtain ⟨rfl, rfl⟩ := ret_at h
      exact q_zret C (by decide) hw dX12_isUnder_50
set_option maxHeartbeats 4000000 in
set_option maxRecDepth 100000 in
theorem w_X12_isUnder_24 {p : Program} {l : Launch} {e : Env} {s : State} {m : MethodId} {args : Array Value} {below : List Frame} {meth : Method} {c : Code} {E : EV} {rr : Int32} {τ : Mem} (C : Cx E p s m args meth c cX12_isUnder 2 (some .boolean) RX12) : ∀ (x0 : Int32) (x1 : Int32) (σ : Mem) (H : Heap) (locs : List Loc) (ls : Array Slot) (hw : Wd TM E σ s H locs) (hl : lv_has ls 2 [(0, .int x0), (1, .int x1)]) (h : f_X12_isUnder_24 x0 x1 σ = some (rr, τ)), W p l e { frames := 0, cells := 0, slots := 0, locals := 0 } s m args below meth c H locs 0 0 (MQ below (QI TM E rr τ) args s 0 0 E.2.2.1) (F0 m 24 ls []) := by
  obtain ⟨hx, hb, hml, hown, hts, hK, hSt, hlk, hr⟩ := id C
  intro x0 x1 σ H locs ls hw hl h
  unfold f_X12_isUnder_24 at h
  refine lv_iload_n hx hb dX12_isUnder_24 rfl (lv_at hl 1 rfl) ?_
  refine lv_iconst (v := 4) hx hb dX12_isUnder_25 (by decide) ?_
  refine lv_icmp_ne (tgt := 34) hx hb dX12_isUnder_26 (by decide) (fun c_6 => ?_) (fun c_6 => ?_)
  · replace h := ie_at h c_6
    exact w_X12_isUnder_34 C _ _ _ _ _ _ hw (lv_sub hl [0, 1] rfl) h
  · replace h := it_at h c_6
    refine lv_iload_n hx hb dX12_isUnder_29 rfl (lv_at hl 0 rfl) ?_
    refine lv_iconst (v := 5) hx hb dX12_isUnder_30 (by decide) ?_
    refine lv_icmp_eq (tgt := 45) hx hb dX12_isUnder_31 (by decide) (fun c_7 => ?_) (fun c_7 => ?_)
    · replace h := it_at h c_7
      refine lv_iconst (v := 1) hx hb dX12_isUnder_45 (by decide) ?_
      refine lv_goto (tgt := 50) hx hb dX12_isUnder_46 (by decide) ?_
      obtain ⟨rfl, rfl⟩ := ret_at h
      exact q_zret C (by decide) hw dX12_isUnder_50
    · replace h := ie_at h c_7
      exact w_X12_isUnder_34 C _ _ _ _ _ _ hw (lv_sub hl [0, 1] rfl) h
set_option maxHeartbeats 4000000 in
set_option maxRecDepth 100000 in
theorem m_X12_isUnder (l : Launch) (E : EV) (p0 : Int32) (p1 : Int32) (σ : Mem) (rr : Int32) (τ : Mem) (h : f_X12_isUnder p0 p1 σ = some (rr, τ)) : MI TM l E yX12_isUnder cX12_isUnder 2 (some .boolean) 0 0 [.int p0, .int p1] σ rr τ := by
  refine mt_start RX12 (by decide +kernel) rfl (Nat.le_of_ble_eq_true rfl) (fun p e s m args below meth c ls C hw hl => ?_)
  replace hl : lv_has ls 2 [(0, .int p0), (1, .int p1)] := hl
  obtain ⟨hx, hb, hml, hown, hts, hK, hSt, hlk, hr⟩ := id C
  unfold f_X12_isUnder at h
  refine lv_iload_n hx hb dX12_isUnder_0 rfl (lv_at hl 1 rfl) ?_
  refine lv_if_eq (tgt := 45) hx hb dX12_isUnder_1 (by decide) (fun c_1 => ?_) (fun c_1 => ?_)
  · replace h := it_at h c_1
    refine lv_iconst (v := 1) hx hb dX12_isUnder_45 (by decide) ?_
    refine lv_goto (tgt := 50) hx hb dX12_isUnder_46 (by decide) ?_
    obtain ⟨rfl, rfl⟩ := ret_at h
    exact q_zret C (by decide) hw dX12_isUnder_50
  · replace h := ie_at h c_1
    refine lv_iload_n hx hb dX12_isUnder_4 rfl (lv_at hl 1 rfl) ?_
    refine lv_iload_n hx hb dX12_isUnder_5 rfl (lv_at hl 0 rfl) ?_
    refine lv_icmp_eq (tgt := 45) hx hb dX12_isUnder_6 (by decide) (fun c_2 => ?_) (fun c_2 => ?_)
    · replace h := it_at h c_2
      refine lv_iconst (v := 1) hx hb dX12_isUnder_45 (by decide) ?_
      refine lv_goto (tgt := 50) hx hb dX12_isUnder_46 (by decide) ?_
      obtain ⟨rfl, rfl⟩ := ret_at h
      exact q_zret C (by decide) hw dX12_isUnder_50
    · replace h := ie_at h c_2
      refine lv_iload_n hx hb dX12_isUnder_9 rfl (lv_at hl 1 rfl) ?_
      refine lv_iconst (v := 3) hx hb dX12_isUnder_10 (by decide) ?_
      refine lv_icmp_ne (tgt := 24) hx hb dX12_isUnder_11 (by decide) (fun c_3 => ?_) (fun c_3 => ?_)
      · replace h := ie_at h c_3
        exact w_X12_isUnder_24 C _ _ _ _ _ _ hw (lv_sub hl [0, 1] rfl) h
      · replace h := it_at h c_3
        refine lv_iload_n hx hb dX12_isUnder_14 rfl (lv_at hl 0 rfl) ?_
        refine lv_iconst (v := 4) hx hb dX12_isUnder_15 (by decide) ?_
        refine lv_icmp_eq (tgt := 45) hx hb dX12_isUnder_16 (by decide) (fun c_4 => ?_) (fun c_4 => ?_)
        · replace h := it_at h c_4
          refine lv_iconst (v := 1) hx hb dX12_isUnder_45 (by decide) ?_
          refine lv_goto (tgt := 50) hx hb dX12_isUnder_46 (by decide) ?_
          obtain ⟨rfl, rfl⟩ := ret_at h
          exact q_zret C (by decide) hw dX12_isUnder_50
        · replace h := ie_at h c_4
          refine lv_iload_n hx hb dX12_isUnder_19 rfl (lv_at hl 0 rfl) ?_
          refine lv_iconst (v := 5) hx hb dX12_isUnder_20 (by decide) ?_
          refine lv_icmp_eq (tgt := 45) hx hb dX12_isUnder_21 (by decide) (fun c_5 => ?_) (fun c_5 => ?_)
          · replace h := it_at h c_5
            refine lv_iconst (v := 1) hx hb dX12_isUnder_45 (by decide) ?_
            refine lv_goto (tgt := 50) hx hb dX12_isUnder_46 (by decide) ?_
            obtain ⟨rfl, rfl⟩ := ret_at h
            exact q_zret C (by decide) hw dX12_isUnder_50
          · replace h := ie_at h c_5
            exact w_X12_isUnder_24 C _ _ _ _ _ _ hw (lv_sub hl [0, 1] rfl) h
def f_X12_runs_19 (σ : Mem) : Option Mem :=
  lt (sI σ 0 35 ((gI σ 0 35) + (1 : Int32))) fun σ_4 =>
  some σ_4
def f_X12_runs (p1 : Int32) (σ : Mem) : Option Mem :=
  if (20 : Int32) ≤ (gI σ 0 35) then
    (f_X12_runs_19  σ)
  else
    gd (ib (gI σ 0 35) 20) <|
    lt (sI σ 15 (gI σ 0 35).toNatClampNeg p1) fun σ_2 =>
    f_X12_runs_19  σ_2
set_option maxHeartbeats 4000000 in
set_option maxRecDepth 100000 in
theorem w_X12_runs_19 {p : Program} {l : Launch} {e : Env} {s : State} {m : MethodId} {args : Array Value} {below : List Frame} {meth : Method} {c : Code} {E : EV} {τ : Mem} (C : Cx E p s m args meth c cX12_runs 2 none RX12) : ∀ (σ : Mem) (H : Heap) (locs : List Loc) (ls : Array Slot) (hw : Wd TM E σ s H locs) (hl : lv_has ls 2 [(0, .ref (E.2.1 (0)))]) (h : f_X12_runs_19  σ = some τ), W p l e { frames := 0, cells := 0, slots := 0, locals := 0 } s m args below meth c H locs 0 0 (MQ below (QV TM E τ) args s 0 0 E.2.2.1) (F0 m 19 ls []) := by
  obtain ⟨hx, hb, hml, hown, hts, hK, hSt, hlk, hr⟩ := id C
  intro  σ H locs ls hw hl h
  unfold f_X12_runs_19 at h
  refine lv_aload_n hx hb dX12_runs_19 rfl (lv_at hl 0 rfl) ?_
  refine lv_dup hx hb dX12_runs_20 rfl ?_
  refine gf_12_35 C hw tM_0 kw_1053 dX12_runs_21 ?_
  refine lv_iconst (v := 1) hx hb dX12_runs_24 (by decide) ?_
  refine lv_iadd hx hb dX12_runs_25 ?_
  obtain ⟨σ_4, eσ_4, h⟩ := lt_at h
  refine pf_12_35 C hw tM_0 kw_1053 eσ_4 dX12_runs_26 (fun H locs hw => ?_)
  cases h
  exact q_vret C hw dX12_runs_29
set_option maxHeartbeats 4000000 in
set_option maxRecDepth 100000 in
theorem m_X12_runs (l : Launch) (E : EV) (p1 : Int32) (σ : Mem) (τ : Mem) (h : f_X12_runs p1 σ = some τ) : MV TM l E yX12_runs cX12_runs 2 none 0 0 [.ref (E.2.1 (0)), .int p1] σ τ := by
  refine mt_start RX12 (by decide +kernel) rfl (Nat.le_of_ble_eq_true rfl) (fun p e s m args below meth c ls C hw hl => ?_)
  replace hl : lv_has ls 2 [(0, .ref (E.2.1 (0))), (1, .int p1)] := hl
  obtain ⟨hx, hb, hml, hown, hts, hK, hSt, hlk, hr⟩ := id C
  unfold f_X12_runs at h
  refine lv_aload_n hx hb dX12_runs_0 rfl (lv_at hl 0 rfl) ?_
  refine gf_12_35 C hw tM_0 kw_1053 dX12_runs_1 ?_
  refine lv_bipush (v := 20) hx hb dX12_runs_4 (by decide) ?_
  refine lv_icmp_ge (tgt := 19) hx hb dX12_runs_6 (by decide) (fun c_1 => ?_) (fun c_1 => ?_)
  · replace h := it_at h c_1
    exact w_X12_runs_19 C  _ _ _ _ hw (lv_sub hl [0] rfl) h
  · replace h := ie_at h c_1
    refine lv_aload_n hx hb dX12_runs_9 rfl (lv_at hl 0 rfl) ?_
    refine gf_12_34 C hw tM_0 kw_1052 dX12_runs_10 ?_
    refine lv_aload_n hx hb dX12_runs_13 rfl (lv_at hl 0 rfl) ?_
    refine gf_12_35 C hw tM_0 kw_1053 dX12_runs_14 ?_
    refine lv_iload_n hx hb dX12_runs_17 rfl (lv_at hl 1 rfl) ?_
    obtain ⟨g_3, h⟩ := gd_at h
    obtain ⟨σ_2, eσ_2, h⟩ := lt_at h
    refine q_iast C hw tM_15 g_3 eσ_2 dX12_runs_18 (fun H locs hw => ?_)
    exact w_X12_runs_19 C  _ _ _ _ hw (lv_sub hl [0] rfl) h
def f_X12_plainSets (p1 : Int32) (σ : Mem) : Option (Int32 × Mem) :=
  bv (f_X12_runs (1 : Int32) σ) fun σ_2 =>
  some (p1 + (gI σ_2 0 37), σ_2)
set_option maxHeartbeats 4000000 in
set_option maxRecDepth 100000 in
theorem m_X12_plainSets (l : Launch) (E : EV) (p1 : Int32) (σ : Mem) (rr : Int32) (τ : Mem) (h : f_X12_plainSets p1 σ = some (rr, τ)) : MI TM l E yX12_plainSets cX12_plainSets 2 (some .int) 1 21 [.ref (E.2.1 (0)), .int p1] σ rr τ := by
  refine mt_start RX12 (by decide +kernel) rfl (Nat.le_of_ble_eq_true rfl) (fun p e s m args below meth c ls C hw hl => ?_)
  replace hl : lv_has ls 2 [(0, .ref (E.2.1 (0))), (1, .int p1)] := hl
  obtain ⟨hx, hb, hml, hown, hts, hK, hSt, hlk, hr⟩ := id C
  unfold f_X12_plainSets at h
  refine lv_aload_n hx hb dX12_plainSets_0 rfl (lv_at hl 0 rfl) ?_
  refine lv_iconst (v := 1) hx hb dX12_plainSets_1 (by decide) ?_
  obtain ⟨σ_2, h_3, h⟩ := bv_at h
  refine q_afterV hw (q_runV C hw hl.1 (As := [.int (1 : Int32)]) (rest := []) (m_X12_runs l E (1 : Int32) σ σ_2 h_3) yq_X12_runs tM_0 rfl rfl kw_1417 ⟨Nat.le_of_ble_eq_true rfl, Nat.le_of_ble_eq_true rfl⟩ rfl (Nat.le_of_ble_eq_true rfl) ⟨Nat.zero_le _, Nat.zero_le _⟩ dX12_plainSets_2) (fun H locs hw => ?_)
  refine lv_iload_n hx hb dX12_plainSets_5 rfl (lv_at hl 1 rfl) ?_
  refine lv_aload_n hx hb dX12_plainSets_6 rfl (lv_at hl 0 rfl) ?_
  refine gf_12_37 C hw tM_0 kw_1055 dX12_plainSets_7 ?_
  refine lv_iadd hx hb dX12_plainSets_10 ?_
  obtain ⟨rfl, rfl⟩ := ret_at h
  exact q_iret C hw dX12_plainSets_11
def f_X12_setsActs (p1 : Int32) (σ : Mem) : Option (Int32 × Mem) :=
  bd (f_X12_isUnder (gI σ 0 36) (1 : Int32) σ) fun r_1 σ_2 =>
  if r_1 = 0 then
    (if (gI σ_2 0 36) = (5 : Int32) then
      (bv (f_X12_runs (51 : Int32) σ_2) fun σ_10 =>
      bd (f_X12_plainSets p1 σ_10) fun r_12 σ_13 =>
      some (r_12 ^^^ (gI σ_13 0 37), σ_13))
    else
      bd (f_X12_plainSets p1 σ_2) fun r_6 σ_7 =>
      some (r_6, σ_7))
  else
    bv (f_X12_runs (11 : Int32) σ_2) fun σ_16 =>
    bd (f_X12_plainSets (p1 * (3 : Int32)) σ_16) fun r_18 σ_19 =>
    some (r_18, σ_19)
set_option maxHeartbeats 4000000 in
set_option maxRecDepth 100000 in
theorem m_X12_setsActs (l : Launch) (E : EV) (p1 : Int32) (σ : Mem) (rr : Int32) (τ : Mem) (h : f_X12_setsActs p1 σ = some (rr, τ)) : MI TM l E yX12_setsActs cX12_setsActs 2 (some .int) 2 42 [.ref (E.2.1 (0)), .int p1] σ rr τ := by
  refine mt_start RX12 (by decide +kernel) rfl (Nat.le_of_ble_eq_true rfl) (fun p e s m args below meth c ls C hw hl => ?_)
  replace hl : lv_has ls 2 [(0, .ref (E.2.1 (0))), (1, .int p1)] := hl
  obtain ⟨hx, hb, hml, hown, hts, hK, hSt, hlk, hr⟩ := id C
  unfold f_X12_setsActs at h
  refine lv_aload_n hx hb dX12_setsActs_0 rfl (lv_at hl 0 rfl) ?_
  refine gf_12_36 C hw tM_0 kw_1054 dX12_setsActs_1 ?_
  refine lv_iconst (v := 1) hx hb dX12_setsActs_4 (by decide) ?_
  obtain ⟨r_1, σ_2, h_3, h⟩ := bd_at h
  refine q_afterI hw (q_runS C hw hl.1 (As := [.int (gI σ 0 36), .int (1 : Int32)]) (rest := []) (m_X12_isUnder l E (gI σ 0 36) (1 : Int32) σ r_1 σ_2 h_3) yq_X12_isUnder kw_1414 ⟨Nat.le_of_ble_eq_true rfl, Nat.le_of_ble_eq_true rfl⟩ rfl (Nat.le_of_ble_eq_true rfl) ⟨Nat.zero_le _, Nat.zero_le _⟩ dX12_setsActs_5) (fun H locs hw => ?_)
  refine lv_if_eq (tgt := 25) hx hb dX12_setsActs_8 (by decide) (fun c_4 => ?_) (fun c_4 => ?_)
  · replace h := it_at h c_4
    refine lv_aload_n hx hb dX12_setsActs_25 rfl (lv_at hl 0 rfl) ?_
    refine gf_12_36 C hw tM_0 kw_1054 dX12_setsActs_26 ?_
    refine lv_iconst (v := 5) hx hb dX12_setsActs_29 (by decide) ?_
    refine lv_icmp_ne (tgt := 50) hx hb dX12_setsActs_30 (by decide) (fun c_5 => ?_) (fun c_5 => ?_)
    · replace h := ie_at h c_5
      refine lv_aload_n hx hb dX12_setsActs_50 rfl (lv_at hl 0 rfl) ?_
      refine lv_iload_n hx hb dX12_setsActs_51 rfl (lv_at hl 1 rfl) ?_
      obtain ⟨r_6, σ_7, h_8, h⟩ := bd_at h
      refine q_afterI hw (q_runV C hw hl.1 (As := [.int p1]) (rest := []) (m_X12_plainSets l E p1 σ_2 r_6 σ_7 h_8) yq_X12_plainSets tM_0 rfl rfl kw_1421 ⟨Nat.le_of_ble_eq_true rfl, Nat.le_of_ble_eq_true rfl⟩ rfl (Nat.le_of_ble_eq_true rfl) ⟨Nat.zero_le _, Nat.zero_le _⟩ dX12_setsActs_52) (fun H locs hw => ?_)
      obtain ⟨rfl, rfl⟩ := ret_at h
      exact q_iret C hw dX12_setsActs_55
    · replace h := it_at h c_5
      refine lv_aload_n hx hb dX12_setsActs_33 rfl (lv_at hl 0 rfl) ?_
      refine lv_bipush (v := 51) hx hb dX12_setsActs_34 (by decide) ?_
      obtain ⟨σ_10, h_11, h⟩ := bv_at h
      refine q_afterV hw (q_runV C hw hl.1 (As := [.int (51 : Int32)]) (rest := []) (m_X12_runs l E (51 : Int32) σ_2 σ_10 h_11) yq_X12_runs tM_0 rfl rfl kw_1417 ⟨Nat.le_of_ble_eq_true rfl, Nat.le_of_ble_eq_true rfl⟩ rfl (Nat.le_of_ble_eq_true rfl) ⟨Nat.zero_le _, Nat.zero_le _⟩ dX12_setsActs_36) (fun H locs hw => ?_)
      refine lv_aload_n hx hb dX12_setsActs_39 rfl (lv_at hl 0 rfl) ?_
      refine lv_iload_n hx hb dX12_setsActs_40 rfl (lv_at hl 1 rfl) ?_
      obtain ⟨r_12, σ_13, h_14, h⟩ := bd_at h
      refine q_afterI hw (q_runV C hw hl.1 (As := [.int p1]) (rest := []) (m_X12_plainSets l E p1 σ_10 r_12 σ_13 h_14) yq_X12_plainSets tM_0 rfl rfl kw_1421 ⟨Nat.le_of_ble_eq_true rfl, Nat.le_of_ble_eq_true rfl⟩ rfl (Nat.le_of_ble_eq_true rfl) ⟨Nat.zero_le _, Nat.zero_le _⟩ dX12_setsActs_41) (fun H locs hw => ?_)
      refine lv_aload_n hx hb dX12_setsActs_44 rfl (lv_at hl 0 rfl) ?_
      refine gf_12_37 C hw tM_0 kw_1055 dX12_setsActs_45 ?_
      refine lv_ixor hx hb dX12_setsActs_48 ?_
      obtain ⟨rfl, rfl⟩ := ret_at h
      exact q_iret C hw dX12_setsActs_49
  · replace h := ie_at h c_4
    refine lv_aload_n hx hb dX12_setsActs_11 rfl (lv_at hl 0 rfl) ?_
    refine lv_bipush (v := 11) hx hb dX12_setsActs_12 (by decide) ?_
    obtain ⟨σ_16, h_17, h⟩ := bv_at h
    refine q_afterV hw (q_runV C hw hl.1 (As := [.int (11 : Int32)]) (rest := []) (m_X12_runs l E (11 : Int32) σ_2 σ_16 h_17) yq_X12_runs tM_0 rfl rfl kw_1417 ⟨Nat.le_of_ble_eq_true rfl, Nat.le_of_ble_eq_true rfl⟩ rfl (Nat.le_of_ble_eq_true rfl) ⟨Nat.zero_le _, Nat.zero_le _⟩ dX12_setsActs_14) (fun H locs hw => ?_)
    refine lv_aload_n hx hb dX12_setsActs_17 rfl (lv_at hl 0 rfl) ?_
    refine lv_iload_n hx hb dX12_setsActs_18 rfl (lv_at hl 1 rfl) ?_
    refine lv_iconst (v := 3) hx hb dX12_setsActs_19 (by decide) ?_
    refine lv_imul hx hb dX12_setsActs_20 ?_
    obtain ⟨r_18, σ_19, h_20, h⟩ := bd_at h
    refine q_afterI hw (q_runV C hw hl.1 (As := [.int (p1 * (3 : Int32))]) (rest := []) (m_X12_plainSets l E (p1 * (3 : Int32)) σ_16 r_18 σ_19 h_20) yq_X12_plainSets tM_0 rfl rfl kw_1421 ⟨Nat.le_of_ble_eq_true rfl, Nat.le_of_ble_eq_true rfl⟩ rfl (Nat.le_of_ble_eq_true rfl) ⟨Nat.zero_le _, Nat.zero_le _⟩ dX12_setsActs_21) (fun H locs hw => ?_)
    obtain ⟨rfl, rfl⟩ := ret_at h
    exact q_iret C hw dX12_setsActs_24
def f_X12_plainTurns (p1 : Int32) (σ : Mem) : Option (Int32 × Mem) :=
  bv (f_X12_runs (2 : Int32) σ) fun σ_2 =>
  bd (f_X12_setsActs p1 σ_2) fun r_4 σ_5 =>
  some (r_4 - (gI σ_5 0 38), σ_5)
set_option maxHeartbeats 4000000 in
set_option maxRecDepth 100000 in
theorem m_X12_plainTurns (l : Launch) (E : EV) (p1 : Int32) (σ : Mem) (rr : Int32) (τ : Mem) (h : f_X12_plainTurns p1 σ = some (rr, τ)) : MI TM l E yX12_plainTurns cX12_plainTurns 2 (some .int) 3 63 [.ref (E.2.1 (0)), .int p1] σ rr τ := by
  refine mt_start RX12 (by decide +kernel) rfl (Nat.le_of_ble_eq_true rfl) (fun p e s m args below meth c ls C hw hl => ?_)
  replace hl : lv_has ls 2 [(0, .ref (E.2.1 (0))), (1, .int p1)] := hl
  obtain ⟨hx, hb, hml, hown, hts, hK, hSt, hlk, hr⟩ := id C
  unfold f_X12_plainTurns at h
  refine lv_aload_n hx hb dX12_plainTurns_0 rfl (lv_at hl 0 rfl) ?_
  refine lv_iconst (v := 2) hx hb dX12_plainTurns_1 (by decide) ?_
  obtain ⟨σ_2, h_3, h⟩ := bv_at h
  refine q_afterV hw (q_runV C hw hl.1 (As := [.int (2 : Int32)]) (rest := []) (m_X12_runs l E (2 : Int32) σ σ_2 h_3) yq_X12_runs tM_0 rfl rfl kw_1417 ⟨Nat.le_of_ble_eq_true rfl, Nat.le_of_ble_eq_true rfl⟩ rfl (Nat.le_of_ble_eq_true rfl) ⟨Nat.zero_le _, Nat.zero_le _⟩ dX12_plainTurns_2) (fun H locs hw => ?_)
  refine lv_aload_n hx hb dX12_plainTurns_5 rfl (lv_at hl 0 rfl) ?_
  refine lv_iload_n hx hb dX12_plainTurns_6 rfl (lv_at hl 1 rfl) ?_
  obtain ⟨r_4, σ_5, h_6, h⟩ := bd_at h
  refine q_afterI hw (q_runV C hw hl.1 (As := [.int p1]) (rest := []) (m_X12_setsActs l E p1 σ_2 r_4 σ_5 h_6) yq_X12_setsActs tM_0 rfl rfl kw_1410 ⟨Nat.le_of_ble_eq_true rfl, Nat.le_of_ble_eq_true rfl⟩ rfl (Nat.le_of_ble_eq_true rfl) ⟨Nat.zero_le _, Nat.zero_le _⟩ dX12_plainTurns_7) (fun H locs hw => ?_)
  refine lv_aload_n hx hb dX12_plainTurns_10 rfl (lv_at hl 0 rfl) ?_
  refine gf_12_38 C hw tM_0 kw_1056 dX12_plainTurns_11 ?_
  refine lv_isub hx hb dX12_plainTurns_14 ?_
  obtain ⟨rfl, rfl⟩ := ret_at h
  exact q_iret C hw dX12_plainTurns_15
def f_X12_turnsActs (p1 : Int32) (σ : Mem) : Option (Int32 × Mem) :=
  if (gI σ 0 36) = (6 : Int32) then
    (bv (f_X12_runs (61 : Int32) σ) fun σ_16 =>
    bd (f_X12_plainTurns p1 σ_16) fun r_18 σ_19 =>
    some (r_18 + (gI σ_19 0 38), σ_19))
  else
    bd (f_X12_isUnder (gI σ 0 36) (3 : Int32) σ) fun r_2 σ_3 =>
    if r_2 = 0 then
      (bd (f_X12_plainTurns p1 σ_3) fun r_6 σ_7 =>
      some (r_6, σ_7))
    else
      bv (f_X12_runs (31 : Int32) σ_3) fun σ_10 =>
      bd (f_X12_plainTurns p1 σ_10) fun r_12 σ_13 =>
      some (-r_12, σ_13)
set_option maxHeartbeats 4000000 in
set_option maxRecDepth 100000 in
theorem m_X12_turnsActs (l : Launch) (E : EV) (p1 : Int32) (σ : Mem) (rr : Int32) (τ : Mem) (h : f_X12_turnsActs p1 σ = some (rr, τ)) : MI TM l E yX12_turnsActs cX12_turnsActs 2 (some .int) 4 84 [.ref (E.2.1 (0)), .int p1] σ rr τ := by
  refine mt_start RX12 (by decide +kernel) rfl (Nat.le_of_ble_eq_true rfl) (fun p e s m args below meth c ls C hw hl => ?_)
  replace hl : lv_has ls 2 [(0, .ref (E.2.1 (0))), (1, .int p1)] := hl
  obtain ⟨hx, hb, hml, hown, hts, hK, hSt, hlk, hr⟩ := id C
  unfold f_X12_turnsActs at h
  refine lv_aload_n hx hb dX12_turnsActs_0 rfl (lv_at hl 0 rfl) ?_
  refine gf_12_36 C hw tM_0 kw_1054 dX12_turnsActs_1 ?_
  refine lv_bipush (v := 6) hx hb dX12_turnsActs_4 (by decide) ?_
  refine lv_icmp_ne (tgt := 26) hx hb dX12_turnsActs_6 (by decide) (fun c_1 => ?_) (fun c_1 => ?_)
  · replace h := ie_at h c_1
    refine lv_aload_n hx hb dX12_turnsActs_26 rfl (lv_at hl 0 rfl) ?_
    refine gf_12_36 C hw tM_0 kw_1054 dX12_turnsActs_27 ?_
    refine lv_iconst (v := 3) hx hb dX12_turnsActs_30 (by decide) ?_
    obtain ⟨r_2, σ_3, h_4, h⟩ := bd_at h
    refine q_afterI hw (q_runS C hw hl.1 (As := [.int (gI σ 0 36), .int (3 : Int32)]) (rest := []) (m_X12_isUnder l E (gI σ 0 36) (3 : Int32) σ r_2 σ_3 h_4) yq_X12_isUnder kw_1414 ⟨Nat.le_of_ble_eq_true rfl, Nat.le_of_ble_eq_true rfl⟩ rfl (Nat.le_of_ble_eq_true rfl) ⟨Nat.zero_le _, Nat.zero_le _⟩ dX12_turnsActs_31) (fun H locs hw => ?_)
    refine lv_if_eq (tgt := 50) hx hb dX12_turnsActs_34 (by decide) (fun c_5 => ?_) (fun c_5 => ?_)
    · replace h := it_at h c_5
      refine lv_aload_n hx hb dX12_turnsActs_50 rfl (lv_at hl 0 rfl) ?_
      refine lv_iload_n hx hb dX12_turnsActs_51 rfl (lv_at hl 1 rfl) ?_
      obtain ⟨r_6, σ_7, h_8, h⟩ := bd_at h
      refine q_afterI hw (q_runV C hw hl.1 (As := [.int p1]) (rest := []) (m_X12_plainTurns l E p1 σ_3 r_6 σ_7 h_8) yq_X12_plainTurns tM_0 rfl rfl kw_1429 ⟨Nat.le_of_ble_eq_true rfl, Nat.le_of_ble_eq_true rfl⟩ rfl (Nat.le_of_ble_eq_true rfl) ⟨Nat.zero_le _, Nat.zero_le _⟩ dX12_turnsActs_52) (fun H locs hw => ?_)
      obtain ⟨rfl, rfl⟩ := ret_at h
      exact q_iret C hw dX12_turnsActs_55
    · replace h := ie_at h c_5
      refine lv_aload_n hx hb dX12_turnsActs_37 rfl (lv_at hl 0 rfl) ?_
      refine lv_bipush (v := 31) hx hb dX12_turnsActs_38 (by decide) ?_
      obtain ⟨σ_10, h_11, h⟩ := bv_at h
      refine q_afterV hw (q_runV C hw hl.1 (As := [.int (31 : Int32)]) (rest := []) (m_X12_runs l E (31 : Int32) σ_3 σ_10 h_11) yq_X12_runs tM_0 rfl rfl kw_1417 ⟨Nat.le_of_ble_eq_true rfl, Nat.le_of_ble_eq_true rfl⟩ rfl (Nat.le_of_ble_eq_true rfl) ⟨Nat.zero_le _, Nat.zero_le _⟩ dX12_turnsActs_40) (fun H locs hw => ?_)
      refine lv_aload_n hx hb dX12_turnsActs_43 rfl (lv_at hl 0 rfl) ?_
      refine lv_iload_n hx hb dX12_turnsActs_44 rfl (lv_at hl 1 rfl) ?_
      obtain ⟨r_12, σ_13, h_14, h⟩ := bd_at h
      refine q_afterI hw (q_runV C hw hl.1 (As := [.int p1]) (rest := []) (m_X12_plainTurns l E p1 σ_10 r_12 σ_13 h_14) yq_X12_plainTurns tM_0 rfl rfl kw_1429 ⟨Nat.le_of_ble_eq_true rfl, Nat.le_of_ble_eq_true rfl⟩ rfl (Nat.le_of_ble_eq_true rfl) ⟨Nat.zero_le _, Nat.zero_le _⟩ dX12_turnsActs_45) (fun H locs hw => ?_)
      refine lv_ineg hx hb dX12_turnsActs_48 ?_
      obtain ⟨rfl, rfl⟩ := ret_at h
      exact q_iret C hw dX12_turnsActs_49
  · replace h := it_at h c_1
    refine lv_aload_n hx hb dX12_turnsActs_9 rfl (lv_at hl 0 rfl) ?_
    refine lv_bipush (v := 61) hx hb dX12_turnsActs_10 (by decide) ?_
    obtain ⟨σ_16, h_17, h⟩ := bv_at h
    refine q_afterV hw (q_runV C hw hl.1 (As := [.int (61 : Int32)]) (rest := []) (m_X12_runs l E (61 : Int32) σ σ_16 h_17) yq_X12_runs tM_0 rfl rfl kw_1417 ⟨Nat.le_of_ble_eq_true rfl, Nat.le_of_ble_eq_true rfl⟩ rfl (Nat.le_of_ble_eq_true rfl) ⟨Nat.zero_le _, Nat.zero_le _⟩ dX12_turnsActs_12) (fun H locs hw => ?_)
    refine lv_aload_n hx hb dX12_turnsActs_15 rfl (lv_at hl 0 rfl) ?_
    refine lv_iload_n hx hb dX12_turnsActs_16 rfl (lv_at hl 1 rfl) ?_
    obtain ⟨r_18, σ_19, h_20, h⟩ := bd_at h
    refine q_afterI hw (q_runV C hw hl.1 (As := [.int p1]) (rest := []) (m_X12_plainTurns l E p1 σ_16 r_18 σ_19 h_20) yq_X12_plainTurns tM_0 rfl rfl kw_1429 ⟨Nat.le_of_ble_eq_true rfl, Nat.le_of_ble_eq_true rfl⟩ rfl (Nat.le_of_ble_eq_true rfl) ⟨Nat.zero_le _, Nat.zero_le _⟩ dX12_turnsActs_17) (fun H locs hw => ?_)
    refine lv_aload_n hx hb dX12_turnsActs_20 rfl (lv_at hl 0 rfl) ?_
    refine gf_12_38 C hw tM_0 kw_1056 dX12_turnsActs_21 ?_
    refine lv_iadd hx hb dX12_turnsActs_24 ?_
    obtain ⟨rfl, rfl⟩ := ret_at h
    exact q_iret C hw dX12_turnsActs_25
def f_X12_plainTells (p1 : Int32) (σ : Mem) : Option (Int32 × Mem) :=
  bv (f_X12_runs (3 : Int32) σ) fun σ_2 =>
  bd (f_X12_turnsActs p1 σ_2) fun r_4 σ_5 =>
  some (r_4 * (2 : Int32), σ_5)
set_option maxHeartbeats 4000000 in
set_option maxRecDepth 100000 in
theorem m_X12_plainTells (l : Launch) (E : EV) (p1 : Int32) (σ : Mem) (rr : Int32) (τ : Mem) (h : f_X12_plainTells p1 σ = some (rr, τ)) : MI TM l E yX12_plainTells cX12_plainTells 2 (some .int) 5 105 [.ref (E.2.1 (0)), .int p1] σ rr τ := by
  refine mt_start RX12 (by decide +kernel) rfl (Nat.le_of_ble_eq_true rfl) (fun p e s m args below meth c ls C hw hl => ?_)
  replace hl : lv_has ls 2 [(0, .ref (E.2.1 (0))), (1, .int p1)] := hl
  obtain ⟨hx, hb, hml, hown, hts, hK, hSt, hlk, hr⟩ := id C
  unfold f_X12_plainTells at h
  refine lv_aload_n hx hb dX12_plainTells_0 rfl (lv_at hl 0 rfl) ?_
  refine lv_iconst (v := 3) hx hb dX12_plainTells_1 (by decide) ?_
  obtain ⟨σ_2, h_3, h⟩ := bv_at h
  refine q_afterV hw (q_runV C hw hl.1 (As := [.int (3 : Int32)]) (rest := []) (m_X12_runs l E (3 : Int32) σ σ_2 h_3) yq_X12_runs tM_0 rfl rfl kw_1417 ⟨Nat.le_of_ble_eq_true rfl, Nat.le_of_ble_eq_true rfl⟩ rfl (Nat.le_of_ble_eq_true rfl) ⟨Nat.zero_le _, Nat.zero_le _⟩ dX12_plainTells_2) (fun H locs hw => ?_)
  refine lv_aload_n hx hb dX12_plainTells_5 rfl (lv_at hl 0 rfl) ?_
  refine lv_iload_n hx hb dX12_plainTells_6 rfl (lv_at hl 1 rfl) ?_
  obtain ⟨r_4, σ_5, h_6, h⟩ := bd_at h
  refine q_afterI hw (q_runV C hw hl.1 (As := [.int p1]) (rest := []) (m_X12_turnsActs l E p1 σ_2 r_4 σ_5 h_6) yq_X12_turnsActs tM_0 rfl rfl kw_1425 ⟨Nat.le_of_ble_eq_true rfl, Nat.le_of_ble_eq_true rfl⟩ rfl (Nat.le_of_ble_eq_true rfl) ⟨Nat.zero_le _, Nat.zero_le _⟩ dX12_plainTells_7) (fun H locs hw => ?_)
  refine lv_iconst (v := 2) hx hb dX12_plainTells_10 (by decide) ?_
  refine lv_imul hx hb dX12_plainTells_11 ?_
  obtain ⟨rfl, rfl⟩ := ret_at h
  exact q_iret C hw dX12_plainTells_12
def f_X12_tellsActs (p1 : Int32) (σ : Mem) : Option (Int32 × Mem) :=
  if (gI σ 0 36) = (2 : Int32) then
    (bv (f_X12_runs (21 : Int32) σ) fun σ_19 =>
    bd (f_X12_plainTells p1 σ_19) fun r_21 σ_22 =>
    some (r_21 ^^^ (7 : Int32), σ_22))
  else
    bd (f_X12_isUnder (gI σ 0 36) (4 : Int32) σ) fun r_2 σ_3 =>
    if r_2 = 0 then
      (bd (f_X12_plainTells p1 σ_3) fun r_6 σ_7 =>
      some (r_6, σ_7))
    else
      bv (f_X12_runs (41 : Int32) σ_3) fun σ_10 =>
      bd (f_X12_plainTells (p1 - (1 : Int32)) σ_10) fun r_12 σ_13 =>
      bd (f_X12_setsActs (2 : Int32) σ_13) fun r_15 σ_16 =>
      some (r_12 + r_15, σ_16)
set_option maxHeartbeats 4000000 in
set_option maxRecDepth 100000 in
theorem m_X12_tellsActs (l : Launch) (E : EV) (p1 : Int32) (σ : Mem) (rr : Int32) (τ : Mem) (h : f_X12_tellsActs p1 σ = some (rr, τ)) : MI TM l E yX12_tellsActs cX12_tellsActs 3 (some .int) 6 126 [.ref (E.2.1 (0)), .int p1] σ rr τ := by
  refine mt_start RX12 (by decide +kernel) rfl (Nat.le_of_ble_eq_true rfl) (fun p e s m args below meth c ls C hw hl => ?_)
  replace hl : lv_has ls 3 [(0, .ref (E.2.1 (0))), (1, .int p1)] := hl
  obtain ⟨hx, hb, hml, hown, hts, hK, hSt, hlk, hr⟩ := id C
  unfold f_X12_tellsActs at h
  refine lv_aload_n hx hb dX12_tellsActs_0 rfl (lv_at hl 0 rfl) ?_
  refine gf_12_36 C hw tM_0 kw_1054 dX12_tellsActs_1 ?_
  refine lv_iconst (v := 2) hx hb dX12_tellsActs_4 (by decide) ?_
  refine lv_icmp_ne (tgt := 23) hx hb dX12_tellsActs_5 (by decide) (fun c_1 => ?_) (fun c_1 => ?_)
  · replace h := ie_at h c_1
    refine lv_aload_n hx hb dX12_tellsActs_23 rfl (lv_at hl 0 rfl) ?_
    refine gf_12_36 C hw tM_0 kw_1054 dX12_tellsActs_24 ?_
    refine lv_iconst (v := 4) hx hb dX12_tellsActs_27 (by decide) ?_
    obtain ⟨r_2, σ_3, h_4, h⟩ := bd_at h
    refine q_afterI hw (q_runS C hw hl.1 (As := [.int (gI σ 0 36), .int (4 : Int32)]) (rest := []) (m_X12_isUnder l E (gI σ 0 36) (4 : Int32) σ r_2 σ_3 h_4) yq_X12_isUnder kw_1414 ⟨Nat.le_of_ble_eq_true rfl, Nat.le_of_ble_eq_true rfl⟩ rfl (Nat.le_of_ble_eq_true rfl) ⟨Nat.zero_le _, Nat.zero_le _⟩ dX12_tellsActs_28) (fun H locs hw => ?_)
    refine lv_if_eq (tgt := 56) hx hb dX12_tellsActs_31 (by decide) (fun c_5 => ?_) (fun c_5 => ?_)
    · replace h := it_at h c_5
      refine lv_aload_n hx hb dX12_tellsActs_56 rfl (lv_at hl 0 rfl) ?_
      refine lv_iload_n hx hb dX12_tellsActs_57 rfl (lv_at hl 1 rfl) ?_
      obtain ⟨r_6, σ_7, h_8, h⟩ := bd_at h
      refine q_afterI hw (q_runV C hw hl.1 (As := [.int p1]) (rest := []) (m_X12_plainTells l E p1 σ_3 r_6 σ_7 h_8) yq_X12_plainTells tM_0 rfl rfl kw_1437 ⟨Nat.le_of_ble_eq_true rfl, Nat.le_of_ble_eq_true rfl⟩ rfl (Nat.le_of_ble_eq_true rfl) ⟨Nat.zero_le _, Nat.zero_le _⟩ dX12_tellsActs_58) (fun H locs hw => ?_)
      obtain ⟨rfl, rfl⟩ := ret_at h
      exact q_iret C hw dX12_tellsActs_61
    · replace h := ie_at h c_5
      refine lv_aload_n hx hb dX12_tellsActs_34 rfl (lv_at hl 0 rfl) ?_
      refine lv_bipush (v := 41) hx hb dX12_tellsActs_35 (by decide) ?_
      obtain ⟨σ_10, h_11, h⟩ := bv_at h
      refine q_afterV hw (q_runV C hw hl.1 (As := [.int (41 : Int32)]) (rest := []) (m_X12_runs l E (41 : Int32) σ_3 σ_10 h_11) yq_X12_runs tM_0 rfl rfl kw_1417 ⟨Nat.le_of_ble_eq_true rfl, Nat.le_of_ble_eq_true rfl⟩ rfl (Nat.le_of_ble_eq_true rfl) ⟨Nat.zero_le _, Nat.zero_le _⟩ dX12_tellsActs_37) (fun H locs hw => ?_)
      refine lv_aload_n hx hb dX12_tellsActs_40 rfl (lv_at hl 0 rfl) ?_
      refine lv_iload_n hx hb dX12_tellsActs_41 rfl (lv_at hl 1 rfl) ?_
      refine lv_iconst (v := 1) hx hb dX12_tellsActs_42 (by decide) ?_
      refine lv_isub hx hb dX12_tellsActs_43 ?_
      obtain ⟨r_12, σ_13, h_14, h⟩ := bd_at h
      refine q_afterI hw (q_runV C hw hl.1 (As := [.int (p1 - (1 : Int32))]) (rest := []) (m_X12_plainTells l E (p1 - (1 : Int32)) σ_10 r_12 σ_13 h_14) yq_X12_plainTells tM_0 rfl rfl kw_1437 ⟨Nat.le_of_ble_eq_true rfl, Nat.le_of_ble_eq_true rfl⟩ rfl (Nat.le_of_ble_eq_true rfl) ⟨Nat.zero_le _, Nat.zero_le _⟩ dX12_tellsActs_44) (fun H locs hw => ?_)
      refine lv_istore_n (lv' := [(2, .int r_12), (0, .ref (E.2.1 (0))), (1, .int p1)]) hx hb dX12_tellsActs_47 rfl hl (by decide) rfl (fun ls hl => ?_)
      refine lv_iload_n hx hb dX12_tellsActs_48 rfl (lv_at hl 0 rfl) ?_
      refine lv_aload_n hx hb dX12_tellsActs_49 rfl (lv_at hl 1 rfl) ?_
      refine lv_iconst (v := 2) hx hb dX12_tellsActs_50 (by decide) ?_
      obtain ⟨r_15, σ_16, h_17, h⟩ := bd_at h
      refine q_afterI hw (q_runV C hw hl.1 (As := [.int (2 : Int32)]) (rest := [.int r_12]) (m_X12_setsActs l E (2 : Int32) σ_13 r_15 σ_16 h_17) yq_X12_setsActs tM_0 rfl rfl kw_1410 ⟨Nat.le_of_ble_eq_true rfl, Nat.le_of_ble_eq_true rfl⟩ rfl (Nat.le_of_ble_eq_true rfl) ⟨Nat.zero_le _, Nat.zero_le _⟩ dX12_tellsActs_51) (fun H locs hw => ?_)
      refine lv_iadd hx hb dX12_tellsActs_54 ?_
      obtain ⟨rfl, rfl⟩ := ret_at h
      exact q_iret C hw dX12_tellsActs_55
  · replace h := it_at h c_1
    refine lv_aload_n hx hb dX12_tellsActs_8 rfl (lv_at hl 0 rfl) ?_
    refine lv_bipush (v := 21) hx hb dX12_tellsActs_9 (by decide) ?_
    obtain ⟨σ_19, h_20, h⟩ := bv_at h
    refine q_afterV hw (q_runV C hw hl.1 (As := [.int (21 : Int32)]) (rest := []) (m_X12_runs l E (21 : Int32) σ σ_19 h_20) yq_X12_runs tM_0 rfl rfl kw_1417 ⟨Nat.le_of_ble_eq_true rfl, Nat.le_of_ble_eq_true rfl⟩ rfl (Nat.le_of_ble_eq_true rfl) ⟨Nat.zero_le _, Nat.zero_le _⟩ dX12_tellsActs_11) (fun H locs hw => ?_)
    refine lv_aload_n hx hb dX12_tellsActs_14 rfl (lv_at hl 0 rfl) ?_
    refine lv_iload_n hx hb dX12_tellsActs_15 rfl (lv_at hl 1 rfl) ?_
    obtain ⟨r_21, σ_22, h_23, h⟩ := bd_at h
    refine q_afterI hw (q_runV C hw hl.1 (As := [.int p1]) (rest := []) (m_X12_plainTells l E p1 σ_19 r_21 σ_22 h_23) yq_X12_plainTells tM_0 rfl rfl kw_1437 ⟨Nat.le_of_ble_eq_true rfl, Nat.le_of_ble_eq_true rfl⟩ rfl (Nat.le_of_ble_eq_true rfl) ⟨Nat.zero_le _, Nat.zero_le _⟩ dX12_tellsActs_16) (fun H locs hw => ?_)
    refine lv_bipush (v := 7) hx hb dX12_tellsActs_19 (by decide) ?_
    refine lv_ixor hx hb dX12_tellsActs_21 ?_
    obtain ⟨rfl, rfl⟩ := ret_at h
    exact q_iret C hw dX12_tellsActs_22
def f_X12_act (p1 : Int32) (p2 : Int32) (p3 : Int32) (σ : Mem) : Option (Int32 × Mem) :=
  lt (sI σ 0 35 (0 : Int32)) fun σ_1 =>
  bd (f_X12_isRule p1 σ_1) fun r_2 σ_3 =>
  if r_2 = 0 then
    (some ((0 : Int32), σ_3))
  else
    bd (f_X12_in p2 (0 : Int32) (2 : Int32) σ_3) fun r_6 σ_7 =>
    if r_6 = 0 then
      (some ((0 : Int32), σ_7))
    else
      gd (ib ((887 : Int32) + p1) 1055) <|
      lt (sI σ_7 0 36 (gI σ_7 1 ((887 : Int32) + p1).toNatClampNeg)) fun σ_11 =>
      lt (sI σ_11 0 37 p1) fun σ_12 =>
      gd (ib ((897 : Int32) + p1) 1055) <|
      lt (sI σ_12 0 38 (gI σ_12 1 ((897 : Int32) + p1).toNatClampNeg)) fun σ_14 =>
      if p2 = 0 then
        (bd (f_X12_setsActs p3 σ_14) fun r_23 σ_24 =>
        some (r_23, σ_24))
      else
        if p2 = (1 : Int32) then
          (bd (f_X12_turnsActs p3 σ_14) fun r_20 σ_21 =>
          some (r_20, σ_21))
        else
          bd (f_X12_tellsActs p3 σ_14) fun r_17 σ_18 =>
          some (r_17, σ_18)
set_option maxHeartbeats 4000000 in
set_option maxRecDepth 100000 in
theorem m_X12_act (l : Launch) (E : EV) (p1 : Int32) (p2 : Int32) (p3 : Int32) (σ : Mem) (rr : Int32) (τ : Mem) (h : f_X12_act p1 p2 p3 σ = some (rr, τ)) : MI TM l E yX12_act cX12_act 4 (some .int) 7 148 [.ref (E.2.1 (0)), .int p1, .int p2, .int p3] σ rr τ := by
  refine mt_start RX12 (by decide +kernel) rfl (Nat.le_of_ble_eq_true rfl) (fun p e s m args below meth c ls C hw hl => ?_)
  replace hl : lv_has ls 4 [(0, .ref (E.2.1 (0))), (1, .int p1), (2, .int p2), (3, .int p3)] := hl
  obtain ⟨hx, hb, hml, hown, hts, hK, hSt, hlk, hr⟩ := id C
  unfold f_X12_act at h
  refine lv_aload_n hx hb dX12_act_0 rfl (lv_at hl 0 rfl) ?_
  refine lv_iconst (v := 0) hx hb dX12_act_1 (by decide) ?_
  obtain ⟨σ_1, eσ_1, h⟩ := lt_at h
  refine pf_12_35 C hw tM_0 kw_1053 eσ_1 dX12_act_2 (fun H locs hw => ?_)
  refine lv_aload_n hx hb dX12_act_5 rfl (lv_at hl 0 rfl) ?_
  refine lv_iload_n hx hb dX12_act_6 rfl (lv_at hl 1 rfl) ?_
  obtain ⟨r_2, σ_3, h_4, h⟩ := bd_at h
  refine q_afterI hw (q_runV C hw hl.1 (As := [.int p1]) (rest := []) (m_X12_isRule l E p1 σ_1 r_2 σ_3 h_4) yq_X12_isRule tM_0 rfl rfl kw_1267 ⟨Nat.le_of_ble_eq_true rfl, Nat.le_of_ble_eq_true rfl⟩ rfl (Nat.le_of_ble_eq_true rfl) ⟨Nat.zero_le _, Nat.zero_le _⟩ dX12_act_7) (fun H locs hw => ?_)
  refine lv_if_eq (tgt := 22) hx hb dX12_act_10 (by decide) (fun c_5 => ?_) (fun c_5 => ?_)
  · replace h := it_at h c_5
    refine lv_iconst (v := 0) hx hb dX12_act_22 (by decide) ?_
    obtain ⟨rfl, rfl⟩ := ret_at h
    exact q_iret C hw dX12_act_23
  · replace h := ie_at h c_5
    refine lv_iload_n hx hb dX12_act_13 rfl (lv_at hl 2 rfl) ?_
    refine lv_iconst (v := 0) hx hb dX12_act_14 (by decide) ?_
    refine lv_iconst (v := 2) hx hb dX12_act_15 (by decide) ?_
    obtain ⟨r_6, σ_7, h_8, h⟩ := bd_at h
    refine q_afterI hw (q_runS C hw hl.1 (As := [.int p2, .int (0 : Int32), .int (2 : Int32)]) (rest := []) (m_X12_in l E p2 (0 : Int32) (2 : Int32) σ_3 r_6 σ_7 h_8) yq_X12_in kw_1142 ⟨Nat.le_of_ble_eq_true rfl, Nat.le_of_ble_eq_true rfl⟩ rfl (Nat.le_of_ble_eq_true rfl) ⟨Nat.zero_le _, Nat.zero_le _⟩ dX12_act_16) (fun H locs hw => ?_)
    refine lv_if_ne (tgt := 24) hx hb dX12_act_19 (by decide) (fun c_9 => ?_) (fun c_9 => ?_)
    · replace h := ie_at h c_9
      refine lv_aload_n hx hb dX12_act_24 rfl (lv_at hl 0 rfl) ?_
      refine lv_aload_n hx hb dX12_act_25 rfl (lv_at hl 0 rfl) ?_
      refine gf_12_1 C hw tM_0 kw_1019 dX12_act_26 ?_
      refine lv_sipush (v := 887) hx hb dX12_act_29 (by decide) ?_
      refine lv_iload_n hx hb dX12_act_32 rfl (lv_at hl 1 rfl) ?_
      refine lv_iadd hx hb dX12_act_33 ?_
      obtain ⟨g_10, h⟩ := gd_at h
      refine q_iald C hw tM_1 g_10 dX12_act_34 ?_
      obtain ⟨σ_11, eσ_11, h⟩ := lt_at h
      refine pf_12_36 C hw tM_0 kw_1054 eσ_11 dX12_act_35 (fun H locs hw => ?_)
      refine lv_aload_n hx hb dX12_act_38 rfl (lv_at hl 0 rfl) ?_
      refine lv_iload_n hx hb dX12_act_39 rfl (lv_at hl 1 rfl) ?_
      obtain ⟨σ_12, eσ_12, h⟩ := lt_at h
      refine pf_12_37 C hw tM_0 kw_1055 eσ_12 dX12_act_40 (fun H locs hw => ?_)
      refine lv_aload_n hx hb dX12_act_43 rfl (lv_at hl 0 rfl) ?_
      refine lv_aload_n hx hb dX12_act_44 rfl (lv_at hl 0 rfl) ?_
      refine gf_12_1 C hw tM_0 kw_1019 dX12_act_45 ?_
      refine lv_sipush (v := 897) hx hb dX12_act_48 (by decide) ?_
      refine lv_iload_n hx hb dX12_act_51 rfl (lv_at hl 1 rfl) ?_
      refine lv_iadd hx hb dX12_act_52 ?_
      obtain ⟨g_13, h⟩ := gd_at h
      refine q_iald C hw tM_1 g_13 dX12_act_53 ?_
      obtain ⟨σ_14, eσ_14, h⟩ := lt_at h
      refine pf_12_38 C hw tM_0 kw_1056 eσ_14 dX12_act_54 (fun H locs hw => ?_)
      refine lv_iload_n hx hb dX12_act_57 rfl (lv_at hl 2 rfl) ?_
      refine lv_if_ne (tgt := 69) hx hb dX12_act_58 (by decide) (fun c_15 => ?_) (fun c_15 => ?_)
      · replace h := ie_at h c_15
        refine lv_iload_n hx hb dX12_act_69 rfl (lv_at hl 2 rfl) ?_
        refine lv_iconst (v := 1) hx hb dX12_act_70 (by decide) ?_
        refine lv_icmp_ne (tgt := 82) hx hb dX12_act_71 (by decide) (fun c_16 => ?_) (fun c_16 => ?_)
        · replace h := ie_at h c_16
          refine lv_aload_n hx hb dX12_act_82 rfl (lv_at hl 0 rfl) ?_
          refine lv_iload_n hx hb dX12_act_83 rfl (lv_at hl 3 rfl) ?_
          obtain ⟨r_17, σ_18, h_19, h⟩ := bd_at h
          refine q_afterI hw (q_runV C hw hl.1 (As := [.int p3]) (rest := []) (m_X12_tellsActs l E p3 σ_14 r_17 σ_18 h_19) yq_X12_tellsActs tM_0 rfl rfl kw_1433 ⟨Nat.le_of_ble_eq_true rfl, Nat.le_of_ble_eq_true rfl⟩ rfl (Nat.le_of_ble_eq_true rfl) ⟨Nat.zero_le _, Nat.zero_le _⟩ dX12_act_84) (fun H locs hw => ?_)
          obtain ⟨rfl, rfl⟩ := ret_at h
          exact q_iret C hw dX12_act_87
        · replace h := it_at h c_16
          refine lv_aload_n hx hb dX12_act_74 rfl (lv_at hl 0 rfl) ?_
          refine lv_iload_n hx hb dX12_act_75 rfl (lv_at hl 3 rfl) ?_
          obtain ⟨r_20, σ_21, h_22, h⟩ := bd_at h
          refine q_afterI hw (q_runV C hw hl.1 (As := [.int p3]) (rest := []) (m_X12_turnsActs l E p3 σ_14 r_20 σ_21 h_22) yq_X12_turnsActs tM_0 rfl rfl kw_1425 ⟨Nat.le_of_ble_eq_true rfl, Nat.le_of_ble_eq_true rfl⟩ rfl (Nat.le_of_ble_eq_true rfl) ⟨Nat.zero_le _, Nat.zero_le _⟩ dX12_act_76) (fun H locs hw => ?_)
          refine lv_goto (tgt := 87) hx hb dX12_act_79 (by decide) ?_
          obtain ⟨rfl, rfl⟩ := ret_at h
          exact q_iret C hw dX12_act_87
      · replace h := it_at h c_15
        refine lv_aload_n hx hb dX12_act_61 rfl (lv_at hl 0 rfl) ?_
        refine lv_iload_n hx hb dX12_act_62 rfl (lv_at hl 3 rfl) ?_
        obtain ⟨r_23, σ_24, h_25, h⟩ := bd_at h
        refine q_afterI hw (q_runV C hw hl.1 (As := [.int p3]) (rest := []) (m_X12_setsActs l E p3 σ_14 r_23 σ_24 h_25) yq_X12_setsActs tM_0 rfl rfl kw_1410 ⟨Nat.le_of_ble_eq_true rfl, Nat.le_of_ble_eq_true rfl⟩ rfl (Nat.le_of_ble_eq_true rfl) ⟨Nat.zero_le _, Nat.zero_le _⟩ dX12_act_63) (fun H locs hw => ?_)
        refine lv_goto (tgt := 87) hx hb dX12_act_66 (by decide) ?_
        obtain ⟨rfl, rfl⟩ := ret_at h
        exact q_iret C hw dX12_act_87
    · replace h := it_at h c_9
      refine lv_iconst (v := 0) hx hb dX12_act_22 (by decide) ?_
      obtain ⟨rfl, rfl⟩ := ret_at h
      exact q_iret C hw dX12_act_23
def f_X12_windAt_30 (x2 : Int32) (s0 : Int32) (σ : Mem) : Option (Int32 × Mem) :=
  if x2 ≤ s0 then
    (some ((0 : Int32), σ))
  else
    some (x2 - s0, σ)
def f_X12_windAt (p1 : Int32) (p2 : Int32) (p3 : Int32) (σ : Mem) : Option (Int32 × Mem) :=
  if p1 = 0 then
    (f_X12_windAt_30 p2 (0 : Int32) σ)
  else
    if p1 = (1 : Int32) then
      (f_X12_windAt_30 p2 (p3 / (16 : Int32)) σ)
    else
      f_X12_windAt_30 p2 ((p3 / (16 : Int32)) + (irm (p3 / (4 : Int32)) (4 : Int32))) σ
set_option maxHeartbeats 4000000 in
set_option maxRecDepth 100000 in
theorem w_X12_windAt_30 {p : Program} {l : Launch} {e : Env} {s : State} {m : MethodId} {args : Array Value} {below : List Frame} {meth : Method} {c : Code} {E : EV} {rr : Int32} {τ : Mem} (C : Cx E p s m args meth c cX12_windAt 5 (some .int) RX12) : ∀ (x2 : Int32) (s0 : Int32) (σ : Mem) (H : Heap) (locs : List Loc) (ls : Array Slot) (hw : Wd TM E σ s H locs) (hl : lv_has ls 5 [(0, .ref (E.2.1 (0))), (2, .int x2)]) (h : f_X12_windAt_30 x2 s0 σ = some (rr, τ)), W p l e { frames := 0, cells := 0, slots := 0, locals := 0 } s m args below meth c H locs 0 0 (MQ below (QI TM E rr τ) args s 0 0 E.2.2.1) (F0 m 30 ls [.int s0]) := by
  obtain ⟨hx, hb, hml, hown, hts, hK, hSt, hlk, hr⟩ := id C
  intro x2 s0 σ H locs ls hw hl h
  unfold f_X12_windAt_30 at h
  refine lv_istore (lv' := [(4, .int s0), (0, .ref (E.2.1 (0))), (2, .int x2)]) hx hb dX12_windAt_30 hl (by decide) rfl (fun ls hl => ?_)
  refine lv_iload_n hx hb dX12_windAt_32 rfl (lv_at hl 2 rfl) ?_
  refine lv_iload hx hb dX12_windAt_33 (lv_at hl 0 rfl) ?_
  refine lv_icmp_le (tgt := 45) hx hb dX12_windAt_35 (by decide) (fun c_3 => ?_) (fun c_3 => ?_)
  · replace h := it_at h c_3
    refine lv_iconst (v := 0) hx hb dX12_windAt_45 (by decide) ?_
    obtain ⟨rfl, rfl⟩ := ret_at h
    exact q_iret C hw dX12_windAt_46
  · replace h := ie_at h c_3
    refine lv_iload_n hx hb dX12_windAt_38 rfl (lv_at hl 2 rfl) ?_
    refine lv_iload hx hb dX12_windAt_39 (lv_at hl 0 rfl) ?_
    refine lv_isub hx hb dX12_windAt_41 ?_
    refine lv_goto (tgt := 46) hx hb dX12_windAt_42 (by decide) ?_
    obtain ⟨rfl, rfl⟩ := ret_at h
    exact q_iret C hw dX12_windAt_46
set_option maxHeartbeats 4000000 in
set_option maxRecDepth 100000 in
theorem m_X12_windAt (l : Launch) (E : EV) (p1 : Int32) (p2 : Int32) (p3 : Int32) (σ : Mem) (rr : Int32) (τ : Mem) (h : f_X12_windAt p1 p2 p3 σ = some (rr, τ)) : MI TM l E yX12_windAt cX12_windAt 5 (some .int) 0 0 [.ref (E.2.1 (0)), .int p1, .int p2, .int p3] σ rr τ := by
  refine mt_start RX12 (by decide +kernel) rfl (Nat.le_of_ble_eq_true rfl) (fun p e s m args below meth c ls C hw hl => ?_)
  replace hl : lv_has ls 5 [(0, .ref (E.2.1 (0))), (1, .int p1), (2, .int p2), (3, .int p3)] := hl
  obtain ⟨hx, hb, hml, hown, hts, hK, hSt, hlk, hr⟩ := id C
  unfold f_X12_windAt at h
  refine lv_iload_n hx hb dX12_windAt_0 rfl (lv_at hl 1 rfl) ?_
  refine lv_if_ne (tgt := 8) hx hb dX12_windAt_1 (by decide) (fun c_1 => ?_) (fun c_1 => ?_)
  · replace h := ie_at h c_1
    refine lv_iload_n hx hb dX12_windAt_8 rfl (lv_at hl 1 rfl) ?_
    refine lv_iconst (v := 1) hx hb dX12_windAt_9 (by decide) ?_
    refine lv_icmp_ne (tgt := 20) hx hb dX12_windAt_10 (by decide) (fun c_2 => ?_) (fun c_2 => ?_)
    · replace h := ie_at h c_2
      refine lv_iload_n hx hb dX12_windAt_20 rfl (lv_at hl 3 rfl) ?_
      refine lv_bipush (v := 16) hx hb dX12_windAt_21 (by decide) ?_
      refine lv_idiv hx hb dX12_windAt_23 (by decide) ?_
      refine lv_iload_n hx hb dX12_windAt_24 rfl (lv_at hl 3 rfl) ?_
      refine lv_iconst (v := 4) hx hb dX12_windAt_25 (by decide) ?_
      refine lv_idiv hx hb dX12_windAt_26 (by decide) ?_
      refine lv_iconst (v := 4) hx hb dX12_windAt_27 (by decide) ?_
      refine q_irem hx hb dX12_windAt_28 (by decide) ?_
      refine lv_iadd hx hb dX12_windAt_29 ?_
      exact w_X12_windAt_30 C _ _ _ _ _ _ hw (lv_sub hl [0, 2] rfl) h
    · replace h := it_at h c_2
      refine lv_iload_n hx hb dX12_windAt_13 rfl (lv_at hl 3 rfl) ?_
      refine lv_bipush (v := 16) hx hb dX12_windAt_14 (by decide) ?_
      refine lv_idiv hx hb dX12_windAt_16 (by decide) ?_
      refine lv_goto (tgt := 30) hx hb dX12_windAt_17 (by decide) ?_
      exact w_X12_windAt_30 C _ _ _ _ _ _ hw (lv_sub hl [0, 2] rfl) h
  · replace h := it_at h c_1
    refine lv_iconst (v := 0) hx hb dX12_windAt_4 (by decide) ?_
    refine lv_goto (tgt := 30) hx hb dX12_windAt_5 (by decide) ?_
    exact w_X12_windAt_30 C _ _ _ _ _ _ hw (lv_sub hl [0, 2] rfl) h
def f_X12_clothAt (p1 : Int32) (p2 : Int32) (σ : Mem) : Option (Int32 × Mem) :=
  if p1 = 0 then
    (some (p2 / (16 : Int32), σ))
  else
    if p1 = (1 : Int32) then
      (some (irm (p2 / (4 : Int32)) (4 : Int32), σ))
    else
      some (irm p2 (4 : Int32), σ)
set_option maxHeartbeats 4000000 in
set_option maxRecDepth 100000 in
theorem m_X12_clothAt (l : Launch) (E : EV) (p1 : Int32) (p2 : Int32) (σ : Mem) (rr : Int32) (τ : Mem) (h : f_X12_clothAt p1 p2 σ = some (rr, τ)) : MI TM l E yX12_clothAt cX12_clothAt 3 (some .int) 0 0 [.ref (E.2.1 (0)), .int p1, .int p2] σ rr τ := by
  refine mt_start RX12 (by decide +kernel) rfl (Nat.le_of_ble_eq_true rfl) (fun p e s m args below meth c ls C hw hl => ?_)
  replace hl : lv_has ls 3 [(0, .ref (E.2.1 (0))), (1, .int p1), (2, .int p2)] := hl
  obtain ⟨hx, hb, hml, hown, hts, hK, hSt, hlk, hr⟩ := id C
  unfold f_X12_clothAt at h
  refine lv_iload_n hx hb dX12_clothAt_0 rfl (lv_at hl 1 rfl) ?_
  refine lv_if_ne (tgt := 11) hx hb dX12_clothAt_1 (by decide) (fun c_1 => ?_) (fun c_1 => ?_)
  · replace h := ie_at h c_1
    refine lv_iload_n hx hb dX12_clothAt_11 rfl (lv_at hl 1 rfl) ?_
    refine lv_iconst (v := 1) hx hb dX12_clothAt_12 (by decide) ?_
    refine lv_icmp_ne (tgt := 24) hx hb dX12_clothAt_13 (by decide) (fun c_2 => ?_) (fun c_2 => ?_)
    · replace h := ie_at h c_2
      refine lv_iload_n hx hb dX12_clothAt_24 rfl (lv_at hl 2 rfl) ?_
      refine lv_iconst (v := 4) hx hb dX12_clothAt_25 (by decide) ?_
      refine q_irem hx hb dX12_clothAt_26 (by decide) ?_
      obtain ⟨rfl, rfl⟩ := ret_at h
      exact q_iret C hw dX12_clothAt_27
    · replace h := it_at h c_2
      refine lv_iload_n hx hb dX12_clothAt_16 rfl (lv_at hl 2 rfl) ?_
      refine lv_iconst (v := 4) hx hb dX12_clothAt_17 (by decide) ?_
      refine lv_idiv hx hb dX12_clothAt_18 (by decide) ?_
      refine lv_iconst (v := 4) hx hb dX12_clothAt_19 (by decide) ?_
      refine q_irem hx hb dX12_clothAt_20 (by decide) ?_
      refine lv_goto (tgt := 27) hx hb dX12_clothAt_21 (by decide) ?_
      obtain ⟨rfl, rfl⟩ := ret_at h
      exact q_iret C hw dX12_clothAt_27
  · replace h := it_at h c_1
    refine lv_iload_n hx hb dX12_clothAt_4 rfl (lv_at hl 2 rfl) ?_
    refine lv_bipush (v := 16) hx hb dX12_clothAt_5 (by decide) ?_
    refine lv_idiv hx hb dX12_clothAt_7 (by decide) ?_
    refine lv_goto (tgt := 27) hx hb dX12_clothAt_8 (by decide) ?_
    obtain ⟨rfl, rfl⟩ := ret_at h
    exact q_iret C hw dX12_clothAt_27
def f_X12_mealAt (p1 : Int32) (p2 : Int32) (p3 : Int32) (σ : Mem) : Option (Int32 × Mem) :=
  gd (ib ((((24 : Int32) * p1) + ((4 : Int32) * p2)) + p3) 72) <|
  some (gI σ 14 ((((24 : Int32) * p1) + ((4 : Int32) * p2)) + p3).toNatClampNeg, σ)
set_option maxHeartbeats 4000000 in
set_option maxRecDepth 100000 in
theorem m_X12_mealAt (l : Launch) (E : EV) (p1 : Int32) (p2 : Int32) (p3 : Int32) (σ : Mem) (rr : Int32) (τ : Mem) (h : f_X12_mealAt p1 p2 p3 σ = some (rr, τ)) : MI TM l E yX12_mealAt cX12_mealAt 4 (some .int) 0 0 [.ref (E.2.1 (0)), .int p1, .int p2, .int p3] σ rr τ := by
  refine mt_start RX12 (by decide +kernel) rfl (Nat.le_of_ble_eq_true rfl) (fun p e s m args below meth c ls C hw hl => ?_)
  replace hl : lv_has ls 4 [(0, .ref (E.2.1 (0))), (1, .int p1), (2, .int p2), (3, .int p3)] := hl
  obtain ⟨hx, hb, hml, hown, hts, hK, hSt, hlk, hr⟩ := id C
  unfold f_X12_mealAt at h
  refine lv_aload_n hx hb dX12_mealAt_0 rfl (lv_at hl 0 rfl) ?_
  refine gf_12_33 C hw tM_0 kw_1051 dX12_mealAt_1 ?_
  refine lv_bipush (v := 24) hx hb dX12_mealAt_4 (by decide) ?_
  refine lv_iload_n hx hb dX12_mealAt_6 rfl (lv_at hl 1 rfl) ?_
  refine lv_imul hx hb dX12_mealAt_7 ?_
  refine lv_iconst (v := 4) hx hb dX12_mealAt_8 (by decide) ?_
  refine lv_iload_n hx hb dX12_mealAt_9 rfl (lv_at hl 2 rfl) ?_
  refine lv_imul hx hb dX12_mealAt_10 ?_
  refine lv_iadd hx hb dX12_mealAt_11 ?_
  refine lv_iload_n hx hb dX12_mealAt_12 rfl (lv_at hl 3 rfl) ?_
  refine lv_iadd hx hb dX12_mealAt_13 ?_
  obtain ⟨g_1, h⟩ := gd_at h
  refine q_iald C hw tM_14 g_1 dX12_mealAt_14 ?_
  obtain ⟨rfl, rfl⟩ := ret_at h
  exact q_iret C hw dX12_mealAt_15
def f_X12_allMeal_5 (k5 : Int32 → Int32 → Int32 → Int32 → Mem → Option (Int32 × Mem)) (x1 : Int32) (x2 : Int32) (x3 : Int32) (x4 : Int32) (σ : Mem) : Option (Int32 × Mem) :=
  if (3 : Int32) ≤ x4 then
    (some (x3, σ))
  else
    bd (f_X12_windAt x4 x1 x2 σ) fun r_2 σ_3 =>
    bd (f_X12_clothAt x4 x2 σ_3) fun r_5 σ_6 =>
    bd (f_X12_mealAt x4 r_2 r_5 σ_6) fun r_8 σ_9 =>
    lt (x3 + r_8) fun x3_11 =>
    lt (x4 + (1 : Int32)) fun x4_12 =>
    k5 x1 x2 x3_11 x4_12 σ_9
def f_X12_allMeal (p1 : Int32) (p2 : Int32) (σ : Mem) : Option (Int32 × Mem) :=
  fx5 (f_X12_allMeal_5) FU p1 p2 (0 : Int32) (0 : Int32) σ
set_option maxHeartbeats 4000000 in
set_option maxRecDepth 100000 in
theorem w_X12_allMeal_5 {p : Program} {l : Launch} {e : Env} {s : State} {m : MethodId} {args : Array Value} {below : List Frame} {meth : Method} {c : Code} {E : EV} {rr : Int32} {τ : Mem} (C : Cx E p s m args meth c cX12_allMeal 5 (some .int) RX12) : ∀ (n : Nat) (x1 : Int32) (x2 : Int32) (x3 : Int32) (x4 : Int32) (σ : Mem) (H : Heap) (locs : List Loc) (ls : Array Slot) (hw : Wd TM E σ s H locs) (hl : lv_has ls 5 [(0, .ref (E.2.1 (0))), (1, .int x1), (2, .int x2), (3, .int x3), (4, .int x4)]) (h : fx5 (f_X12_allMeal_5) n x1 x2 x3 x4 σ = some (rr, τ)), W p l e { frames := 1, cells := 0, slots := 0, locals := 24 } s m args below meth c H locs 0 0 (MQ below (QI TM E rr τ) args s 0 0 E.2.2.1) (F0 m 5 ls []) := by
  obtain ⟨hx, hb, hml, hown, hts, hK, hSt, hlk, hr⟩ := id C
  intro n
  induction n with
  | zero =>
    intro x1 x2 x3 x4 σ H locs ls hw hl h
    have h : none = some (rr, τ) := h
    cases h
  | succ n hk5 =>
    intro x1 x2 x3 x4 σ H locs ls hw hl h
    replace h : f_X12_allMeal_5 (fx5 (f_X12_allMeal_5) n) x1 x2 x3 x4 σ = some (rr, τ) := h
    unfold f_X12_allMeal_5 at h
    refine lv_iload hx hb dX12_allMeal_5 (lv_at hl 4 rfl) ?_
    refine lv_iconst (v := 3) hx hb dX12_allMeal_7 (by decide) ?_
    refine lv_icmp_ge (tgt := 41) hx hb dX12_allMeal_8 (by decide) (fun c_1 => ?_) (fun c_1 => ?_)
    · replace h := it_at h c_1
      refine lv_iload_n hx hb dX12_allMeal_41 rfl (lv_at hl 3 rfl) ?_
      obtain ⟨rfl, rfl⟩ := ret_at h
      exact q_iret C hw dX12_allMeal_42
    · replace h := ie_at h c_1
      refine lv_iload_n hx hb dX12_allMeal_11 rfl (lv_at hl 3 rfl) ?_
      refine lv_aload_n hx hb dX12_allMeal_12 rfl (lv_at hl 0 rfl) ?_
      refine lv_iload hx hb dX12_allMeal_13 (lv_at hl 4 rfl) ?_
      refine lv_aload_n hx hb dX12_allMeal_15 rfl (lv_at hl 0 rfl) ?_
      refine lv_iload hx hb dX12_allMeal_16 (lv_at hl 4 rfl) ?_
      refine lv_iload_n hx hb dX12_allMeal_18 rfl (lv_at hl 1 rfl) ?_
      refine lv_iload_n hx hb dX12_allMeal_19 rfl (lv_at hl 2 rfl) ?_
      obtain ⟨r_2, σ_3, h_4, h⟩ := bd_at h
      refine q_afterI hw (q_runV C hw hl.1 (As := [.int x4, .int x1, .int x2]) (rest := [.int x4, .ref (E.2.1 (0)), .int x3]) (m_X12_windAt l E x4 x1 x2 σ r_2 σ_3 h_4) yq_X12_windAt tM_0 rfl rfl kw_1382 ⟨Nat.le_of_ble_eq_true rfl, Nat.le_of_ble_eq_true rfl⟩ rfl (Nat.le_of_ble_eq_true rfl) ⟨Nat.zero_le _, Nat.zero_le _⟩ dX12_allMeal_20) (fun H locs hw => ?_)
      refine lv_aload_n hx hb dX12_allMeal_23 rfl (lv_at hl 0 rfl) ?_
      refine lv_iload hx hb dX12_allMeal_24 (lv_at hl 4 rfl) ?_
      refine lv_iload_n hx hb dX12_allMeal_26 rfl (lv_at hl 2 rfl) ?_
      obtain ⟨r_5, σ_6, h_7, h⟩ := bd_at h
      refine q_afterI hw (q_runV C hw hl.1 (As := [.int x4, .int x2]) (rest := [.int r_2, .int x4, .ref (E.2.1 (0)), .int x3]) (m_X12_clothAt l E x4 x2 σ_3 r_5 σ_6 h_7) yq_X12_clothAt tM_0 rfl rfl kw_1386 ⟨Nat.le_of_ble_eq_true rfl, Nat.le_of_ble_eq_true rfl⟩ rfl (Nat.le_of_ble_eq_true rfl) ⟨Nat.zero_le _, Nat.zero_le _⟩ dX12_allMeal_27) (fun H locs hw => ?_)
      obtain ⟨r_8, σ_9, h_10, h⟩ := bd_at h
      refine q_afterI hw (q_runV C hw hl.1 (As := [.int x4, .int r_2, .int r_5]) (rest := [.int x3]) (m_X12_mealAt l E x4 r_2 r_5 σ_6 r_8 σ_9 h_10) yq_X12_mealAt tM_0 rfl rfl kw_1390 ⟨Nat.le_of_ble_eq_true rfl, Nat.le_of_ble_eq_true rfl⟩ rfl (Nat.le_of_ble_eq_true rfl) ⟨Nat.zero_le _, Nat.zero_le _⟩ dX12_allMeal_30) (fun H locs hw => ?_)
      refine lv_iadd hx hb dX12_allMeal_33 ?_
      obtain ⟨x3_11, ex3_11, h⟩ := lt_at h
      refine q_top ex3_11 ?_
      refine lv_istore_n (lv' := [(3, .int x3_11), (0, .ref (E.2.1 (0))), (1, .int x1), (2, .int x2), (4, .int x4)]) hx hb dX12_allMeal_34 rfl hl (by decide) rfl (fun ls hl => ?_)
      obtain ⟨x4_12, ex4_12, h⟩ := lt_at h
      refine lv_iinc (v := x4_12) (lv' := [(4, .int x4_12), (3, .int x3_11), (0, .ref (E.2.1 (0))), (1, .int x1), (2, .int x2)]) hx hb dX12_allMeal_35 hl (k := 4) rfl (by rw [ex4_12]; rfl) (by decide) rfl (fun ls hl => ?_)
      refine lv_goto (tgt := 5) hx hb dX12_allMeal_38 (by decide) ?_
      exact hk5 _ _ _ _ _ _ _ _ hw (lv_sub hl [2, 3, 4, 1, 0] rfl) h
set_option maxHeartbeats 4000000 in
set_option maxRecDepth 100000 in
theorem m_X12_allMeal (l : Launch) (E : EV) (p1 : Int32) (p2 : Int32) (σ : Mem) (rr : Int32) (τ : Mem) (h : f_X12_allMeal p1 p2 σ = some (rr, τ)) : MI TM l E yX12_allMeal cX12_allMeal 5 (some .int) 1 24 [.ref (E.2.1 (0)), .int p1, .int p2] σ rr τ := by
  refine mt_start RX12 (by decide +kernel) rfl (Nat.le_of_ble_eq_true rfl) (fun p e s m args below meth c ls C hw hl => ?_)
  replace hl : lv_has ls 5 [(0, .ref (E.2.1 (0))), (1, .int p1), (2, .int p2)] := hl
  obtain ⟨hx, hb, hml, hown, hts, hK, hSt, hlk, hr⟩ := id C
  unfold f_X12_allMeal at h
  refine lv_iconst (v := 0) hx hb dX12_allMeal_0 (by decide) ?_
  refine lv_istore_n (lv' := [(3, .int (0 : Int32)), (0, .ref (E.2.1 (0))), (1, .int p1), (2, .int p2)]) hx hb dX12_allMeal_1 rfl hl (by decide) rfl (fun ls hl => ?_)
  refine lv_iconst (v := 0) hx hb dX12_allMeal_2 (by decide) ?_
  refine lv_istore (lv' := [(4, .int (0 : Int32)), (3, .int (0 : Int32)), (0, .ref (E.2.1 (0))), (1, .int p1), (2, .int p2)]) hx hb dX12_allMeal_3 hl (by decide) rfl (fun ls hl => ?_)
  exact w_X12_allMeal_5 C _ _ _ _ _ _ _ _ _ hw (lv_sub hl [2, 3, 4, 1, 0] rfl) h
def f_X12_as (p1 : Int32) (p2 : Int32) (σ : Mem) : Option (Int32 × Mem) :=
  bd (f_X12_isRule p1 σ) fun r_1 σ_2 =>
  if r_1 = 0 then
    (some ((-1 : Int32), σ_2))
  else
    bd (f_X12_in p2 (0 : Int32) (6 : Int32) σ_2) fun r_5 σ_6 =>
    if r_5 = 0 then
      (some ((-1 : Int32), σ_6))
    else
      gd (ib ((887 : Int32) + p1) 1055) <|
      bd (f_X12_isUnder (gI σ_6 1 ((887 : Int32) + p1).toNatClampNeg) p2 σ_6) fun r_10 σ_11 =>
      if r_10 = 0 then
        (some ((-6 : Int32), σ_11))
      else
        gd (ib ((897 : Int32) + p1) 1055) <|
        some (gI σ_11 1 ((897 : Int32) + p1).toNatClampNeg, σ_11)
set_option maxHeartbeats 4000000 in
set_option maxRecDepth 100000 in
theorem m_X12_as (l : Launch) (E : EV) (p1 : Int32) (p2 : Int32) (σ : Mem) (rr : Int32) (τ : Mem) (h : f_X12_as p1 p2 σ = some (rr, τ)) : MI TM l E yX12_as cX12_as 3 (some .int) 2 43 [.ref (E.2.1 (0)), .int p1, .int p2] σ rr τ := by
  refine mt_start RX12 (by decide +kernel) rfl (Nat.le_of_ble_eq_true rfl) (fun p e s m args below meth c ls C hw hl => ?_)
  replace hl : lv_has ls 3 [(0, .ref (E.2.1 (0))), (1, .int p1), (2, .int p2)] := hl
  obtain ⟨hx, hb, hml, hown, hts, hK, hSt, hlk, hr⟩ := id C
  unfold f_X12_as at h
  refine lv_aload_n hx hb dX12_as_0 rfl (lv_at hl 0 rfl) ?_
  refine lv_iload_n hx hb dX12_as_1 rfl (lv_at hl 1 rfl) ?_
  obtain ⟨r_1, σ_2, h_3, h⟩ := bd_at h
  refine q_afterI hw (q_runV C hw hl.1 (As := [.int p1]) (rest := []) (m_X12_isRule l E p1 σ r_1 σ_2 h_3) yq_X12_isRule tM_0 rfl rfl kw_1267 ⟨Nat.le_of_ble_eq_true rfl, Nat.le_of_ble_eq_true rfl⟩ rfl (Nat.le_of_ble_eq_true rfl) ⟨Nat.zero_le _, Nat.zero_le _⟩ dX12_as_2) (fun H locs hw => ?_)
  refine lv_if_eq (tgt := 18) hx hb dX12_as_5 (by decide) (fun c_4 => ?_) (fun c_4 => ?_)
  · replace h := it_at h c_4
    refine lv_iconst (v := (-1)) hx hb dX12_as_18 (by decide) ?_
    obtain ⟨rfl, rfl⟩ := ret_at h
    exact q_iret C hw dX12_as_19
  · replace h := ie_at h c_4
    refine lv_iload_n hx hb dX12_as_8 rfl (lv_at hl 2 rfl) ?_
    refine lv_iconst (v := 0) hx hb dX12_as_9 (by decide) ?_
    refine lv_bipush (v := 6) hx hb dX12_as_10 (by decide) ?_
    obtain ⟨r_5, σ_6, h_7, h⟩ := bd_at h
    refine q_afterI hw (q_runS C hw hl.1 (As := [.int p2, .int (0 : Int32), .int (6 : Int32)]) (rest := []) (m_X12_in l E p2 (0 : Int32) (6 : Int32) σ_2 r_5 σ_6 h_7) yq_X12_in kw_1142 ⟨Nat.le_of_ble_eq_true rfl, Nat.le_of_ble_eq_true rfl⟩ rfl (Nat.le_of_ble_eq_true rfl) ⟨Nat.zero_le _, Nat.zero_le _⟩ dX12_as_12) (fun H locs hw => ?_)
    refine lv_if_ne (tgt := 20) hx hb dX12_as_15 (by decide) (fun c_8 => ?_) (fun c_8 => ?_)
    · replace h := ie_at h c_8
      refine lv_aload_n hx hb dX12_as_20 rfl (lv_at hl 0 rfl) ?_
      refine gf_12_1 C hw tM_0 kw_1019 dX12_as_21 ?_
      refine lv_sipush (v := 887) hx hb dX12_as_24 (by decide) ?_
      refine lv_iload_n hx hb dX12_as_27 rfl (lv_at hl 1 rfl) ?_
      refine lv_iadd hx hb dX12_as_28 ?_
      obtain ⟨g_9, h⟩ := gd_at h
      refine q_iald C hw tM_1 g_9 dX12_as_29 ?_
      refine lv_iload_n hx hb dX12_as_30 rfl (lv_at hl 2 rfl) ?_
      obtain ⟨r_10, σ_11, h_12, h⟩ := bd_at h
      refine q_afterI hw (q_runS C hw hl.1 (As := [.int (gI σ_6 1 ((887 : Int32) + p1).toNatClampNeg), .int p2]) (rest := []) (m_X12_isUnder l E (gI σ_6 1 ((887 : Int32) + p1).toNatClampNeg) p2 σ_6 r_10 σ_11 h_12) yq_X12_isUnder kw_1414 ⟨Nat.le_of_ble_eq_true rfl, Nat.le_of_ble_eq_true rfl⟩ rfl (Nat.le_of_ble_eq_true rfl) ⟨Nat.zero_le _, Nat.zero_le _⟩ dX12_as_31) (fun H locs hw => ?_)
      refine lv_if_eq (tgt := 50) hx hb dX12_as_34 (by decide) (fun c_13 => ?_) (fun c_13 => ?_)
      · replace h := it_at h c_13
        refine lv_bipush (v := (-6)) hx hb dX12_as_50 (by decide) ?_
        obtain ⟨rfl, rfl⟩ := ret_at h
        exact q_iret C hw dX12_as_52
      · replace h := ie_at h c_13
        refine lv_aload_n hx hb dX12_as_37 rfl (lv_at hl 0 rfl) ?_
        refine gf_12_1 C hw tM_0 kw_1019 dX12_as_38 ?_
        refine lv_sipush (v := 897) hx hb dX12_as_41 (by decide) ?_
        refine lv_iload_n hx hb dX12_as_44 rfl (lv_at hl 1 rfl) ?_
        refine lv_iadd hx hb dX12_as_45 ?_
        obtain ⟨g_14, h⟩ := gd_at h
        refine q_iald C hw tM_1 g_14 dX12_as_46 ?_
        refine lv_goto (tgt := 52) hx hb dX12_as_47 (by decide) ?_
        obtain ⟨rfl, rfl⟩ := ret_at h
        exact q_iret C hw dX12_as_52
    · replace h := it_at h c_8
      refine lv_iconst (v := (-1)) hx hb dX12_as_18 (by decide) ?_
      obtain ⟨rfl, rfl⟩ := ret_at h
      exact q_iret C hw dX12_as_19
def f_X12_behind_67 (rc : Int32 → Int32 → Int32 → Int32 → Int32 → Mem → Option (Int64 × Mem)) (k16 : Int32 → Int32 → Int32 → Int32 → Int64 → Int32 → Mem → Option (Int64 × Mem)) (x1 : Int32) (x2 : Int32) (x3 : Int32) (x4 : Int32) (x7 : Int32) (s0 : Int64) (s1 : Int64) (σ : Mem) : Option (Int64 × Mem) :=
  lt (s0 + s1) fun x5_9 =>
  lt (x7 + (1 : Int32)) fun x7_10 =>
  k16 x1 x2 x3 x4 x5_9 x7_10 σ
def f_X12_behind_16 (rc : Int32 → Int32 → Int32 → Int32 → Int32 → Mem → Option (Int64 × Mem)) (k16 : Int32 → Int32 → Int32 → Int32 → Int64 → Int32 → Mem → Option (Int64 × Mem)) (x1 : Int32) (x2 : Int32) (x3 : Int32) (x4 : Int32) (x5 : Int64) (x7 : Int32) (σ : Mem) : Option (Int64 × Mem) :=
  if (6 : Int32) ≤ x7 then
    (some (x5 / (1000 : Int64), σ))
  else
    gd (ib (((851 : Int32) + ((6 : Int32) * x2)) + x7) 1055) <|
    lt (gI σ 1 (((851 : Int32) + ((6 : Int32) * x2)) + x7).toNatClampNeg) fun x8_4 =>
    if x8_4 = 0 then
      (f_X12_behind_67 rc k16 x1 x2 x3 x4 x7 x5 (0 : Int64) σ)
    else
      bd (rc x1 x7 x2 x3 x4 σ) fun r_6 σ_7 =>
      f_X12_behind_67 rc k16 x1 x2 x3 x4 x7 x5 ((x8_4.toInt64) * r_6) σ_7
def f_X12_behind (rc : Int32 → Int32 → Int32 → Int32 → Int32 → Mem → Option (Int64 × Mem)) (p1 : Int32) (p2 : Int32) (p3 : Int32) (p4 : Int32) (σ : Mem) : Option (Int64 × Mem) :=
  if p1 = (gI σ 0 30) then
    (some ((0 : Int64), σ))
  else
    fx7 (f_X12_behind_16 rc) FU p1 p2 p3 p4 (0 : Int64) (0 : Int32) σ
set_option maxHeartbeats 4000000 in
set_option maxRecDepth 100000 in
theorem w_X12_behind_67 {p : Program} {l : Launch} {e : Env} {s : State} {m : MethodId} {args : Array Value} {below : List Frame} {meth : Method} {c : Code} {E : EV} {rr : Int64} {τ : Mem} (C : Cx E p s m args meth c cX12_behind 9 (some .long) RX12) {rc : Int32 → Int32 → Int32 → Int32 → Int32 → Mem → Option (Int64 × Mem)} {fr lo : Nat} (hF : 200 ≤ fr) (hL : 8000 ≤ lo) (hrc : ∀ (p1 : Int32) (p2 : Int32) (p3 : Int32) (p4 : Int32) (p5 : Int32) (σ : Mem) (rr : Int64) (τ : Mem), rc p1 p2 p3 p4 p5 σ = some (rr, τ) → ML TM l E yX12_meanFrom cX12_meanFrom 9 (some .long) fr lo [.ref (E.2.1 (0)), .int p1, .int p2, .int p3, .int p4, .int p5] σ rr τ) (k16 : Int32 → Int32 → Int32 → Int32 → Int64 → Int32 → Mem → Option (Int64 × Mem)) (hk16 : ∀ (x1 : Int32) (x2 : Int32) (x3 : Int32) (x4 : Int32) (x5 : Int64) (x7 : Int32) (σ : Mem) (H : Heap) (locs : List Loc) (ls : Array Slot) (hw : Wd TM E σ s H locs) (hl : lv_has ls 9 [(0, .ref (E.2.1 (0))), (1, .int x1), (2, .int x2), (3, .int x3), (4, .int x4), (5, .long x5), (7, .int x7)]) (h : k16 x1 x2 x3 x4 x5 x7 σ = some (rr, τ)), W p l e { frames := fr + 1, cells := 0, slots := 0, locals := lo + 28 } s m args below meth c H locs 0 0 (MQ below (QL TM E rr τ) args s 0 0 E.2.2.1) (F0 m 16 ls [])) : ∀ (x1 : Int32) (x2 : Int32) (x3 : Int32) (x4 : Int32) (x7 : Int32) (s0 : Int64) (s1 : Int64) (σ : Mem) (H : Heap) (locs : List Loc) (ls : Array Slot) (hw : Wd TM E σ s H locs) (hl : lv_has ls 9 [(0, .ref (E.2.1 (0))), (1, .int x1), (2, .int x2), (3, .int x3), (4, .int x4), (7, .int x7)]) (h : f_X12_behind_67 rc k16 x1 x2 x3 x4 x7 s0 s1 σ = some (rr, τ)), W p l e { frames := fr + 1, cells := 0, slots := 0, locals := lo + 28 } s m args below meth c H locs 0 0 (MQ below (QL TM E rr τ) args s 0 0 E.2.2.1) (F0 m 67 ls [.long s1, .long s0]) := by
  obtain ⟨hx, hb, hml, hown, hts, hK, hSt, hlk, hr⟩ := id C
  intro x1 x2 x3 x4 x7 s0 s1 σ H locs ls hw hl h
  unfold f_X12_behind_67 at h
  refine lv_ladd hx hb dX12_behind_67 ?_
  obtain ⟨x5_9, ex5_9, h⟩ := lt_at h
  refine q_topl ex5_9 ?_
  refine lv_lstore (lv' := [(5, .long x5_9), (0, .ref (E.2.1 (0))), (1, .int x1), (2, .int x2), (3, .int x3), (4, .int x4), (7, .int x7)]) hx hb dX12_behind_68 hl (by decide) rfl (fun ls hl => ?_)
  obtain ⟨x7_10, ex7_10, h⟩ := lt_at h
  refine lv_iinc (v := x7_10) (lv' := [(7, .int x7_10), (5, .long x5_9), (0, .ref (E.2.1 (0))), (1, .int x1), (2, .int x2), (3, .int x3), (4, .int x4)]) hx hb dX12_behind_70 hl (k := 6) rfl (by rw [ex7_10]; rfl) (by decide) rfl (fun ls hl => ?_)
  refine lv_goto (tgt := 16) hx hb dX12_behind_73 (by decide) ?_
  exact hk16 _ _ _ _ _ _ _ _ _ _ hw (lv_sub hl [2, 3, 4, 5, 6, 1, 0] rfl) h
set_option maxHeartbeats 4000000 in
set_option maxRecDepth 100000 in
theorem w_X12_behind_16 {p : Program} {l : Launch} {e : Env} {s : State} {m : MethodId} {args : Array Value} {below : List Frame} {meth : Method} {c : Code} {E : EV} {rr : Int64} {τ : Mem} (C : Cx E p s m args meth c cX12_behind 9 (some .long) RX12) {rc : Int32 → Int32 → Int32 → Int32 → Int32 → Mem → Option (Int64 × Mem)} {fr lo : Nat} (hF : 200 ≤ fr) (hL : 8000 ≤ lo) (hrc : ∀ (p1 : Int32) (p2 : Int32) (p3 : Int32) (p4 : Int32) (p5 : Int32) (σ : Mem) (rr : Int64) (τ : Mem), rc p1 p2 p3 p4 p5 σ = some (rr, τ) → ML TM l E yX12_meanFrom cX12_meanFrom 9 (some .long) fr lo [.ref (E.2.1 (0)), .int p1, .int p2, .int p3, .int p4, .int p5] σ rr τ) : ∀ (n : Nat) (x1 : Int32) (x2 : Int32) (x3 : Int32) (x4 : Int32) (x5 : Int64) (x7 : Int32) (σ : Mem) (H : Heap) (locs : List Loc) (ls : Array Slot) (hw : Wd TM E σ s H locs) (hl : lv_has ls 9 [(0, .ref (E.2.1 (0))), (1, .int x1), (2, .int x2), (3, .int x3), (4, .int x4), (5, .long x5), (7, .int x7)]) (h : fx7 (f_X12_behind_16 rc) n x1 x2 x3 x4 x5 x7 σ = some (rr, τ)), W p l e { frames := fr + 1, cells := 0, slots := 0, locals := lo + 28 } s m args below meth c H locs 0 0 (MQ below (QL TM E rr τ) args s 0 0 E.2.2.1) (F0 m 16 ls []) := by
  obtain ⟨hx, hb, hml, hown, hts, hK, hSt, hlk, hr⟩ := id C
  intro n
  induction n with
  | zero =>
    intro x1 x2 x3 x4 x5 x7 σ H locs ls hw hl h
    have h : none = some (rr, τ) := h
    cases h
  | succ n hk16 =>
    intro x1 x2 x3 x4 x5 x7 σ H locs ls hw hl h
    replace h : f_X12_behind_16 rc (fx7 (f_X12_behind_16 rc) n) x1 x2 x3 x4 x5 x7 σ = some (rr, τ) := h
    unfold f_X12_behind_16 at h
    refine lv_iload hx hb dX12_behind_16 (lv_at hl 6 rfl) ?_
    refine lv_bipush (v := 6) hx hb dX12_behind_18 (by decide) ?_
    refine lv_icmp_ge (tgt := 76) hx hb dX12_behind_20 (by decide) (fun c_2 => ?_) (fun c_2 => ?_)
    · replace h := it_at h c_2
      refine lv_lload hx hb dX12_behind_76 (lv_at hl 5 rfl) ?_
      refine lv_ldc2 hx hb hown (hts _ kw_1307) dX12_behind_78 ?_
      refine lv_ldiv hx hb dX12_behind_81 (by decide) ?_
      obtain ⟨rfl, rfl⟩ := ret_at h
      exact q_lret C hw dX12_behind_82
    · replace h := ie_at h c_2
      refine lv_aload_n hx hb dX12_behind_23 rfl (lv_at hl 0 rfl) ?_
      refine gf_12_1 C hw tM_0 kw_1019 dX12_behind_24 ?_
      refine lv_sipush (v := 851) hx hb dX12_behind_27 (by decide) ?_
      refine lv_bipush (v := 6) hx hb dX12_behind_30 (by decide) ?_
      refine lv_iload_n hx hb dX12_behind_32 rfl (lv_at hl 2 rfl) ?_
      refine lv_imul hx hb dX12_behind_33 ?_
      refine lv_iadd hx hb dX12_behind_34 ?_
      refine lv_iload hx hb dX12_behind_35 (lv_at hl 6 rfl) ?_
      refine lv_iadd hx hb dX12_behind_37 ?_
      obtain ⟨g_3, h⟩ := gd_at h
      refine q_iald C hw tM_1 g_3 dX12_behind_38 ?_
      obtain ⟨x8_4, ex8_4, h⟩ := lt_at h
      refine q_top ex8_4 ?_
      refine lv_istore (lv' := [(8, .int x8_4), (0, .ref (E.2.1 (0))), (1, .int x1), (2, .int x2), (3, .int x3), (4, .int x4), (5, .long x5), (7, .int x7)]) hx hb dX12_behind_39 hl (by decide) rfl (fun ls hl => ?_)
      refine lv_lload hx hb dX12_behind_41 (lv_at hl 6 rfl) ?_
      refine lv_iload hx hb dX12_behind_43 (lv_at hl 0 rfl) ?_
      refine lv_if_ne (tgt := 52) hx hb dX12_behind_45 (by decide) (fun c_5 => ?_) (fun c_5 => ?_)
      · replace h := ie_at h c_5
        refine lv_iload hx hb dX12_behind_52 (lv_at hl 0 rfl) ?_
        refine lv_i2l hx hb dX12_behind_54 rfl ?_
        refine lv_aload_n hx hb dX12_behind_55 rfl (lv_at hl 1 rfl) ?_
        refine lv_iload_n hx hb dX12_behind_56 rfl (lv_at hl 2 rfl) ?_
        refine lv_iload hx hb dX12_behind_57 (lv_at hl 7 rfl) ?_
        refine lv_iload_n hx hb dX12_behind_59 rfl (lv_at hl 3 rfl) ?_
        refine lv_iload_n hx hb dX12_behind_60 rfl (lv_at hl 4 rfl) ?_
        refine lv_iload hx hb dX12_behind_61 (lv_at hl 5 rfl) ?_
        obtain ⟨r_6, σ_7, h_8, h⟩ := bd_at h
        refine q_afterL hw (q_runV C hw hl.1 (As := [.int x1, .int x7, .int x2, .int x3, .int x4]) (rest := [.long (x8_4.toInt64), .long x5]) (hrc x1 x7 x2 x3 x4 σ r_6 σ_7 h_8) yq_X12_meanFrom tM_0 rfl rfl kw_1317 ⟨by dsimp only; omega, by dsimp only; omega⟩ rfl (Nat.le_of_ble_eq_true rfl) ⟨Nat.zero_le _, Nat.zero_le _⟩ dX12_behind_63) (fun H locs hw => ?_)
        refine lv_lmul hx hb dX12_behind_66 ?_
        exact w_X12_behind_67 C hF hL hrc _ hk16 _ _ _ _ _ _ _ _ _ _ _ hw (lv_sub hl [1, 2, 3, 4, 5, 7] rfl) h
      · replace h := it_at h c_5
        refine lv_lconst (v := 0) hx hb dX12_behind_48 (by decide) ?_
        refine lv_goto (tgt := 67) hx hb dX12_behind_49 (by decide) ?_
        exact w_X12_behind_67 C hF hL hrc _ hk16 _ _ _ _ _ _ _ _ _ _ _ hw (lv_sub hl [1, 2, 3, 4, 5, 7] rfl) h
set_option maxHeartbeats 4000000 in
set_option maxRecDepth 100000 in
theorem m_X12_behind (l : Launch) (E : EV) (rc : Int32 → Int32 → Int32 → Int32 → Int32 → Mem → Option (Int64 × Mem)) {fr lo : Nat} (hF : 200 ≤ fr) (hL : 8000 ≤ lo) (hrc : ∀ (p1 : Int32) (p2 : Int32) (p3 : Int32) (p4 : Int32) (p5 : Int32) (σ : Mem) (rr : Int64) (τ : Mem), rc p1 p2 p3 p4 p5 σ = some (rr, τ) → ML TM l E yX12_meanFrom cX12_meanFrom 9 (some .long) fr lo [.ref (E.2.1 (0)), .int p1, .int p2, .int p3, .int p4, .int p5] σ rr τ) (p1 : Int32) (p2 : Int32) (p3 : Int32) (p4 : Int32) (σ : Mem) (rr : Int64) (τ : Mem) (h : f_X12_behind rc p1 p2 p3 p4 σ = some (rr, τ)) : ML TM l E yX12_behind cX12_behind 9 (some .long) (fr + 1) (lo + 28) [.ref (E.2.1 (0)), .int p1, .int p2, .int p3, .int p4] σ rr τ := by
  refine mt_start RX12 (by decide +kernel) rfl (Nat.le_of_ble_eq_true rfl) (fun p e s m args below meth c ls C hw hl => ?_)
  replace hl : lv_has ls 9 [(0, .ref (E.2.1 (0))), (1, .int p1), (2, .int p2), (3, .int p3), (4, .int p4)] := hl
  obtain ⟨hx, hb, hml, hown, hts, hK, hSt, hlk, hr⟩ := id C
  unfold f_X12_behind at h
  refine lv_iload_n hx hb dX12_behind_0 rfl (lv_at hl 1 rfl) ?_
  refine lv_aload_n hx hb dX12_behind_1 rfl (lv_at hl 0 rfl) ?_
  refine gf_12_30 C hw tM_0 kw_1048 dX12_behind_2 ?_
  refine lv_icmp_ne (tgt := 10) hx hb dX12_behind_5 (by decide) (fun c_1 => ?_) (fun c_1 => ?_)
  · replace h := ie_at h c_1
    refine lv_lconst (v := 0) hx hb dX12_behind_10 (by decide) ?_
    refine lv_lstore (lv' := [(5, .long (0 : Int64)), (0, .ref (E.2.1 (0))), (1, .int p1), (2, .int p2), (3, .int p3), (4, .int p4)]) hx hb dX12_behind_11 hl (by decide) rfl (fun ls hl => ?_)
    refine lv_iconst (v := 0) hx hb dX12_behind_13 (by decide) ?_
    refine lv_istore (lv' := [(7, .int (0 : Int32)), (5, .long (0 : Int64)), (0, .ref (E.2.1 (0))), (1, .int p1), (2, .int p2), (3, .int p3), (4, .int p4)]) hx hb dX12_behind_14 hl (by decide) rfl (fun ls hl => ?_)
    exact w_X12_behind_16 C hF hL hrc _ _ _ _ _ _ _ _ _ _ _ hw (lv_sub hl [2, 3, 4, 5, 6, 1, 0] rfl) h
  · replace h := it_at h c_1
    refine lv_lconst (v := 0) hx hb dX12_behind_8 (by decide) ?_
    obtain ⟨rfl, rfl⟩ := ret_at h
    exact q_lret C hw dX12_behind_9
def f_X12_meanAnew_111 (rc : Int32 → Int32 → Int32 → Int32 → Int32 → Mem → Option (Int64 × Mem)) (x1 : Int32) (x2 : Int32) (x7 : Int32) (s0 : Int64) (σ : Mem) : Option (Int64 × Mem) :=
  gd (ib x7 4800) <|
  gd (ib x7 4800) <|
  bd (f_X12_behind rc (x1 + (1 : Int32)) x2 (gI σ 7 x7.toNatClampNeg) (gI σ 8 x7.toNatClampNeg) σ) fun r_18 σ_19 =>
  some (s0 + r_18, σ_19)
def f_X12_meanAnew (rc : Int32 → Int32 → Int32 → Int32 → Int32 → Mem → Option (Int64 × Mem)) (p1 : Int32) (p2 : Int32) (p3 : Int32) (p4 : Int32) (p5 : Int32) (σ : Mem) : Option (Int64 × Mem) :=
  if p1 = (gI σ 0 31) then
    (bd (f_X12_behind rc (p1 + (1 : Int32)) p2 (0 : Int32) (0 : Int32) σ) fun r_13 σ_14 =>
    some (r_13, σ_14))
  else
    bd (f_X12_settingOf (gI σ 0 27) (gI σ 0 28) (gI σ 0 29) p1 ((gI σ 0 30) - p1) p2 p3 p4 p5 σ) fun r_2 σ_3 =>
    bd (f_X12_hourPlace p2 r_2 p4 p5 σ_3) fun r_5 σ_6 =>
    gd (ib r_5 4800) <|
    if 0 ≤ (gI σ_6 6 r_5.toNatClampNeg) then
      (if (gI σ_6 0 32) = 0 then
        (gd (ib r_5 4800) <|
        f_X12_meanAnew_111 rc p1 p2 r_5 ((1000 : Int64) * ((gI σ_6 6 r_5.toNatClampNeg).toInt64)) σ_6)
      else
        f_X12_meanAnew_111 rc p1 p2 r_5 (0 : Int64) σ_6)
    else
      if (gI σ_6 0 32) = 0 then
        (some ((0 : Int64), σ_6))
      else
        some ((1000000 : Int64), σ_6)
set_option maxHeartbeats 4000000 in
set_option maxRecDepth 100000 in
theorem w_X12_meanAnew_111 {p : Program} {l : Launch} {e : Env} {s : State} {m : MethodId} {args : Array Value} {below : List Frame} {meth : Method} {c : Code} {E : EV} {rr : Int64} {τ : Mem} (C : Cx E p s m args meth c cX12_meanAnew 10 (some .long) RX12) {rc : Int32 → Int32 → Int32 → Int32 → Int32 → Mem → Option (Int64 × Mem)} {fr lo : Nat} (hF : 200 ≤ fr) (hL : 8000 ≤ lo) (hrc : ∀ (p1 : Int32) (p2 : Int32) (p3 : Int32) (p4 : Int32) (p5 : Int32) (σ : Mem) (rr : Int64) (τ : Mem), rc p1 p2 p3 p4 p5 σ = some (rr, τ) → ML TM l E yX12_meanFrom cX12_meanFrom 9 (some .long) fr lo [.ref (E.2.1 (0)), .int p1, .int p2, .int p3, .int p4, .int p5] σ rr τ) : ∀ (x1 : Int32) (x2 : Int32) (x7 : Int32) (s0 : Int64) (σ : Mem) (H : Heap) (locs : List Loc) (ls : Array Slot) (hw : Wd TM E σ s H locs) (hl : lv_has ls 10 [(0, .ref (E.2.1 (0))), (1, .int x1), (2, .int x2), (7, .int x7)]) (h : f_X12_meanAnew_111 rc x1 x2 x7 s0 σ = some (rr, τ)), W p l e { frames := fr + 2, cells := 0, slots := 0, locals := lo + 56 } s m args below meth c H locs 0 0 (MQ below (QL TM E rr τ) args s 0 0 E.2.2.1) (F0 m 111 ls [.long s0]) := by
  obtain ⟨hx, hb, hml, hown, hts, hK, hSt, hlk, hr⟩ := id C
  intro x1 x2 x7 s0 σ H locs ls hw hl h
  unfold f_X12_meanAnew_111 at h
  refine lv_lstore (lv' := [(8, .long s0), (0, .ref (E.2.1 (0))), (1, .int x1), (2, .int x2), (7, .int x7)]) hx hb dX12_meanAnew_111 hl (by decide) rfl (fun ls hl => ?_)
  refine lv_lload hx hb dX12_meanAnew_113 (lv_at hl 0 rfl) ?_
  refine lv_aload_n hx hb dX12_meanAnew_115 rfl (lv_at hl 1 rfl) ?_
  refine lv_iload_n hx hb dX12_meanAnew_116 rfl (lv_at hl 2 rfl) ?_
  refine lv_iconst (v := 1) hx hb dX12_meanAnew_117 (by decide) ?_
  refine lv_iadd hx hb dX12_meanAnew_118 ?_
  refine lv_iload_n hx hb dX12_meanAnew_119 rfl (lv_at hl 3 rfl) ?_
  refine lv_aload_n hx hb dX12_meanAnew_120 rfl (lv_at hl 1 rfl) ?_
  refine gf_12_18 C hw tM_0 kw_1036 dX12_meanAnew_121 ?_
  refine lv_iload hx hb dX12_meanAnew_124 (lv_at hl 4 rfl) ?_
  obtain ⟨g_16, h⟩ := gd_at h
  refine q_iald C hw tM_7 g_16 dX12_meanAnew_126 ?_
  refine lv_aload_n hx hb dX12_meanAnew_127 rfl (lv_at hl 1 rfl) ?_
  refine gf_12_19 C hw tM_0 kw_1037 dX12_meanAnew_128 ?_
  refine lv_iload hx hb dX12_meanAnew_131 (lv_at hl 4 rfl) ?_
  obtain ⟨g_17, h⟩ := gd_at h
  refine q_iald C hw tM_8 g_17 dX12_meanAnew_133 ?_
  obtain ⟨r_18, σ_19, h_20, h⟩ := bd_at h
  refine q_afterL hw (q_runV C hw hl.1 (As := [.int (x1 + (1 : Int32)), .int x2, .int (gI σ 7 x7.toNatClampNeg), .int (gI σ 8 x7.toNatClampNeg)]) (rest := [.long s0]) (m_X12_behind l E rc hF hL hrc (x1 + (1 : Int32)) x2 (gI σ 7 x7.toNatClampNeg) (gI σ 8 x7.toNatClampNeg) σ r_18 σ_19 h_20) yq_X12_behind tM_0 rfl rfl kw_1325 ⟨by dsimp only; omega, by dsimp only; omega⟩ rfl (Nat.le_of_ble_eq_true rfl) ⟨Nat.zero_le _, Nat.zero_le _⟩ dX12_meanAnew_134) (fun H locs hw => ?_)
  refine lv_ladd hx hb dX12_meanAnew_137 ?_
  obtain ⟨rfl, rfl⟩ := ret_at h
  exact q_lret C hw dX12_meanAnew_138
set_option maxHeartbeats 4000000 in
set_option maxRecDepth 100000 in
theorem m_X12_meanAnew (l : Launch) (E : EV) (rc : Int32 → Int32 → Int32 → Int32 → Int32 → Mem → Option (Int64 × Mem)) {fr lo : Nat} (hF : 200 ≤ fr) (hL : 8000 ≤ lo) (hrc : ∀ (p1 : Int32) (p2 : Int32) (p3 : Int32) (p4 : Int32) (p5 : Int32) (σ : Mem) (rr : Int64) (τ : Mem), rc p1 p2 p3 p4 p5 σ = some (rr, τ) → ML TM l E yX12_meanFrom cX12_meanFrom 9 (some .long) fr lo [.ref (E.2.1 (0)), .int p1, .int p2, .int p3, .int p4, .int p5] σ rr τ) (p1 : Int32) (p2 : Int32) (p3 : Int32) (p4 : Int32) (p5 : Int32) (σ : Mem) (rr : Int64) (τ : Mem) (h : f_X12_meanAnew rc p1 p2 p3 p4 p5 σ = some (rr, τ)) : ML TM l E yX12_meanAnew cX12_meanAnew 10 (some .long) (fr + 2) (lo + 56) [.ref (E.2.1 (0)), .int p1, .int p2, .int p3, .int p4, .int p5] σ rr τ := by
  refine mt_start RX12 (by decide +kernel) rfl (Nat.le_of_ble_eq_true rfl) (fun p e s m args below meth c ls C hw hl => ?_)
  replace hl : lv_has ls 10 [(0, .ref (E.2.1 (0))), (1, .int p1), (2, .int p2), (3, .int p3), (4, .int p4), (5, .int p5)] := hl
  obtain ⟨hx, hb, hml, hown, hts, hK, hSt, hlk, hr⟩ := id C
  unfold f_X12_meanAnew at h
  refine lv_iload_n hx hb dX12_meanAnew_0 rfl (lv_at hl 1 rfl) ?_
  refine lv_aload_n hx hb dX12_meanAnew_1 rfl (lv_at hl 0 rfl) ?_
  refine gf_12_31 C hw tM_0 kw_1049 dX12_meanAnew_2 ?_
  refine lv_icmp_ne (tgt := 19) hx hb dX12_meanAnew_5 (by decide) (fun c_1 => ?_) (fun c_1 => ?_)
  · replace h := ie_at h c_1
    refine lv_aload_n hx hb dX12_meanAnew_19 rfl (lv_at hl 0 rfl) ?_
    refine lv_aload_n hx hb dX12_meanAnew_20 rfl (lv_at hl 0 rfl) ?_
    refine gf_12_27 C hw tM_0 kw_1045 dX12_meanAnew_21 ?_
    refine lv_aload_n hx hb dX12_meanAnew_24 rfl (lv_at hl 0 rfl) ?_
    refine gf_12_28 C hw tM_0 kw_1046 dX12_meanAnew_25 ?_
    refine lv_aload_n hx hb dX12_meanAnew_28 rfl (lv_at hl 0 rfl) ?_
    refine gf_12_29 C hw tM_0 kw_1047 dX12_meanAnew_29 ?_
    refine lv_iload_n hx hb dX12_meanAnew_32 rfl (lv_at hl 1 rfl) ?_
    refine lv_aload_n hx hb dX12_meanAnew_33 rfl (lv_at hl 0 rfl) ?_
    refine gf_12_30 C hw tM_0 kw_1048 dX12_meanAnew_34 ?_
    refine lv_iload_n hx hb dX12_meanAnew_37 rfl (lv_at hl 1 rfl) ?_
    refine lv_isub hx hb dX12_meanAnew_38 ?_
    refine lv_iload_n hx hb dX12_meanAnew_39 rfl (lv_at hl 2 rfl) ?_
    refine lv_iload_n hx hb dX12_meanAnew_40 rfl (lv_at hl 3 rfl) ?_
    refine lv_iload hx hb dX12_meanAnew_41 (lv_at hl 4 rfl) ?_
    refine lv_iload hx hb dX12_meanAnew_43 (lv_at hl 5 rfl) ?_
    obtain ⟨r_2, σ_3, h_4, h⟩ := bd_at h
    refine q_afterI hw (q_runV C hw hl.1 (As := [.int (gI σ 0 27), .int (gI σ 0 28), .int (gI σ 0 29), .int p1, .int ((gI σ 0 30) - p1), .int p2, .int p3, .int p4, .int p5]) (rest := []) (m_X12_settingOf l E (gI σ 0 27) (gI σ 0 28) (gI σ 0 29) p1 ((gI σ 0 30) - p1) p2 p3 p4 p5 σ r_2 σ_3 h_4) yq_X12_settingOf tM_0 rfl rfl kw_1279 ⟨by dsimp only; omega, by dsimp only; omega⟩ rfl (Nat.le_of_ble_eq_true rfl) ⟨Nat.zero_le _, Nat.zero_le _⟩ dX12_meanAnew_45) (fun H locs hw => ?_)
    refine lv_istore (lv' := [(6, .int r_2), (0, .ref (E.2.1 (0))), (1, .int p1), (2, .int p2), (3, .int p3), (4, .int p4), (5, .int p5)]) hx hb dX12_meanAnew_48 hl (by decide) rfl (fun ls hl => ?_)
    refine lv_aload_n hx hb dX12_meanAnew_50 rfl (lv_at hl 1 rfl) ?_
    refine lv_iload_n hx hb dX12_meanAnew_51 rfl (lv_at hl 3 rfl) ?_
    refine lv_iload hx hb dX12_meanAnew_52 (lv_at hl 0 rfl) ?_
    refine lv_iload hx hb dX12_meanAnew_54 (lv_at hl 5 rfl) ?_
    refine lv_iload hx hb dX12_meanAnew_56 (lv_at hl 6 rfl) ?_
    obtain ⟨r_5, σ_6, h_7, h⟩ := bd_at h
    refine q_afterI hw (q_runV C hw hl.1 (As := [.int p2, .int r_2, .int p4, .int p5]) (rest := []) (m_X12_hourPlace l E p2 r_2 p4 p5 σ_3 r_5 σ_6 h_7) yq_X12_hourPlace tM_0 rfl rfl kw_1287 ⟨by dsimp only; omega, by dsimp only; omega⟩ rfl (Nat.le_of_ble_eq_true rfl) ⟨Nat.zero_le _, Nat.zero_le _⟩ dX12_meanAnew_58) (fun H locs hw => ?_)
    refine lv_istore (lv' := [(7, .int r_5), (6, .int r_2), (0, .ref (E.2.1 (0))), (1, .int p1), (2, .int p2), (3, .int p3), (4, .int p4), (5, .int p5)]) hx hb dX12_meanAnew_61 hl (by decide) rfl (fun ls hl => ?_)
    refine lv_aload_n hx hb dX12_meanAnew_63 rfl (lv_at hl 2 rfl) ?_
    refine gf_12_17 C hw tM_0 kw_1035 dX12_meanAnew_64 ?_
    refine lv_iload hx hb dX12_meanAnew_67 (lv_at hl 0 rfl) ?_
    obtain ⟨g_8, h⟩ := gd_at h
    refine q_iald C hw tM_6 g_8 dX12_meanAnew_69 ?_
    refine lv_if_ge (tgt := 88) hx hb dX12_meanAnew_70 (by decide) (fun c_9 => ?_) (fun c_9 => ?_)
    · replace h := it_at h c_9
      refine lv_aload_n hx hb dX12_meanAnew_88 rfl (lv_at hl 2 rfl) ?_
      refine gf_12_32 C hw tM_0 kw_1050 dX12_meanAnew_89 ?_
      refine lv_if_eq (tgt := 99) hx hb dX12_meanAnew_92 (by decide) (fun c_10 => ?_) (fun c_10 => ?_)
      · replace h := it_at h c_10
        refine lv_ldc2 hx hb hown (hts _ kw_1307) dX12_meanAnew_99 ?_
        refine lv_aload_n hx hb dX12_meanAnew_102 rfl (lv_at hl 2 rfl) ?_
        refine gf_12_17 C hw tM_0 kw_1035 dX12_meanAnew_103 ?_
        refine lv_iload hx hb dX12_meanAnew_106 (lv_at hl 0 rfl) ?_
        obtain ⟨g_11, h⟩ := gd_at h
        refine q_iald C hw tM_6 g_11 dX12_meanAnew_108 ?_
        refine lv_i2l hx hb dX12_meanAnew_109 rfl ?_
        refine lv_lmul hx hb dX12_meanAnew_110 ?_
        exact w_X12_meanAnew_111 C hF hL hrc _ _ _ _ _ _ _ _ hw (lv_sub hl [2, 3, 4, 0] rfl) h
      · replace h := ie_at h c_10
        refine lv_lconst (v := 0) hx hb dX12_meanAnew_95 (by decide) ?_
        refine lv_goto (tgt := 111) hx hb dX12_meanAnew_96 (by decide) ?_
        exact w_X12_meanAnew_111 C hF hL hrc _ _ _ _ _ _ _ _ hw (lv_sub hl [2, 3, 4, 0] rfl) h
    · replace h := ie_at h c_9
      refine lv_aload_n hx hb dX12_meanAnew_73 rfl (lv_at hl 2 rfl) ?_
      refine gf_12_32 C hw tM_0 kw_1050 dX12_meanAnew_74 ?_
      refine lv_if_eq (tgt := 86) hx hb dX12_meanAnew_77 (by decide) (fun c_12 => ?_) (fun c_12 => ?_)
      · replace h := it_at h c_12
        refine lv_lconst (v := 0) hx hb dX12_meanAnew_86 (by decide) ?_
        obtain ⟨rfl, rfl⟩ := ret_at h
        exact q_lret C hw dX12_meanAnew_87
      · replace h := ie_at h c_12
        refine lv_ldc2 hx hb hown (hts _ kw_1329) dX12_meanAnew_80 ?_
        refine lv_goto (tgt := 87) hx hb dX12_meanAnew_83 (by decide) ?_
        obtain ⟨rfl, rfl⟩ := ret_at h
        exact q_lret C hw dX12_meanAnew_87
  · replace h := it_at h c_1
    refine lv_aload_n hx hb dX12_meanAnew_8 rfl (lv_at hl 0 rfl) ?_
    refine lv_iload_n hx hb dX12_meanAnew_9 rfl (lv_at hl 1 rfl) ?_
    refine lv_iconst (v := 1) hx hb dX12_meanAnew_10 (by decide) ?_
    refine lv_iadd hx hb dX12_meanAnew_11 ?_
    refine lv_iload_n hx hb dX12_meanAnew_12 rfl (lv_at hl 2 rfl) ?_
    refine lv_iconst (v := 0) hx hb dX12_meanAnew_13 (by decide) ?_
    refine lv_iconst (v := 0) hx hb dX12_meanAnew_14 (by decide) ?_
    obtain ⟨r_13, σ_14, h_15, h⟩ := bd_at h
    refine q_afterL hw (q_runV C hw hl.1 (As := [.int (p1 + (1 : Int32)), .int p2, .int (0 : Int32), .int (0 : Int32)]) (rest := []) (m_X12_behind l E rc hF hL hrc (p1 + (1 : Int32)) p2 (0 : Int32) (0 : Int32) σ r_13 σ_14 h_15) yq_X12_behind tM_0 rfl rfl kw_1325 ⟨by dsimp only; omega, by dsimp only; omega⟩ rfl (Nat.le_of_ble_eq_true rfl) ⟨Nat.zero_le _, Nat.zero_le _⟩ dX12_meanAnew_15) (fun H locs hw => ?_)
    obtain ⟨rfl, rfl⟩ := ret_at h
    exact q_lret C hw dX12_meanAnew_18
def f_X12_meanFrom_F (rc : Int32 → Int32 → Int32 → Int32 → Int32 → Mem → Option (Int64 × Mem)) (p1 : Int32) (p2 : Int32) (p3 : Int32) (p4 : Int32) (p5 : Int32) (σ : Mem) : Option (Int64 × Mem) :=
  lt (((((((((6 : Int32) * p1) + p2) * (6 : Int32)) + p3) * (10 : Int32)) + p4) * (10 : Int32)) + p5) fun x6_1 =>
  gd (ib x6_1 21600) <|
  if (gI σ 11 x6_1.toNatClampNeg) = (gI σ 0 26) then
    (gd (ib x6_1 21600) <|
    some (gL σ 13 x6_1.toNatClampNeg, σ))
  else
    bd (f_X12_meanAnew rc p1 p2 p3 p4 p5 σ) fun r_5 σ_6 =>
    gd (ib x6_1 21600) <|
    lt (sI σ_6 11 x6_1.toNatClampNeg (gI σ_6 0 26)) fun σ_8 =>
    gd (ib x6_1 21600) <|
    lt (sL σ_8 13 x6_1.toNatClampNeg r_5) fun σ_10 =>
    gd (ib x6_1 21600) <|
    some (gL σ_10 13 x6_1.toNatClampNeg, σ_10)
def f_X12_meanFrom (p1 : Int32) (p2 : Int32) (p3 : Int32) (p4 : Int32) (p5 : Int32) (σ : Mem) : Option (Int64 × Mem) := fx6 f_X12_meanFrom_F 16 p1 p2 p3 p4 p5 σ
set_option maxHeartbeats 4000000 in
set_option maxRecDepth 100000 in
theorem m_X12_meanFrom_F (l : Launch) (E : EV) (rc : Int32 → Int32 → Int32 → Int32 → Int32 → Mem → Option (Int64 × Mem)) {fr lo : Nat} (hF : 200 ≤ fr) (hL : 8000 ≤ lo) (hrc : ∀ (p1 : Int32) (p2 : Int32) (p3 : Int32) (p4 : Int32) (p5 : Int32) (σ : Mem) (rr : Int64) (τ : Mem), rc p1 p2 p3 p4 p5 σ = some (rr, τ) → ML TM l E yX12_meanFrom cX12_meanFrom 9 (some .long) fr lo [.ref (E.2.1 (0)), .int p1, .int p2, .int p3, .int p4, .int p5] σ rr τ) (p1 : Int32) (p2 : Int32) (p3 : Int32) (p4 : Int32) (p5 : Int32) (σ : Mem) (rr : Int64) (τ : Mem) (h : f_X12_meanFrom_F rc p1 p2 p3 p4 p5 σ = some (rr, τ)) : ML TM l E yX12_meanFrom cX12_meanFrom 9 (some .long) (fr + 3) (lo + 85) [.ref (E.2.1 (0)), .int p1, .int p2, .int p3, .int p4, .int p5] σ rr τ := by
  refine mt_start RX12 (by decide +kernel) rfl (Nat.le_of_ble_eq_true rfl) (fun p e s m args below meth c ls C hw hl => ?_)
  replace hl : lv_has ls 9 [(0, .ref (E.2.1 (0))), (1, .int p1), (2, .int p2), (3, .int p3), (4, .int p4), (5, .int p5)] := hl
  obtain ⟨hx, hb, hml, hown, hts, hK, hSt, hlk, hr⟩ := id C
  unfold f_X12_meanFrom_F at h
  refine lv_bipush (v := 6) hx hb dX12_meanFrom_0 (by decide) ?_
  refine lv_iload_n hx hb dX12_meanFrom_2 rfl (lv_at hl 1 rfl) ?_
  refine lv_imul hx hb dX12_meanFrom_3 ?_
  refine lv_iload_n hx hb dX12_meanFrom_4 rfl (lv_at hl 2 rfl) ?_
  refine lv_iadd hx hb dX12_meanFrom_5 ?_
  refine lv_bipush (v := 6) hx hb dX12_meanFrom_6 (by decide) ?_
  refine lv_imul hx hb dX12_meanFrom_8 ?_
  refine lv_iload_n hx hb dX12_meanFrom_9 rfl (lv_at hl 3 rfl) ?_
  refine lv_iadd hx hb dX12_meanFrom_10 ?_
  refine lv_bipush (v := 10) hx hb dX12_meanFrom_11 (by decide) ?_
  refine lv_imul hx hb dX12_meanFrom_13 ?_
  refine lv_iload hx hb dX12_meanFrom_14 (lv_at hl 4 rfl) ?_
  refine lv_iadd hx hb dX12_meanFrom_16 ?_
  refine lv_bipush (v := 10) hx hb dX12_meanFrom_17 (by decide) ?_
  refine lv_imul hx hb dX12_meanFrom_19 ?_
  refine lv_iload hx hb dX12_meanFrom_20 (lv_at hl 5 rfl) ?_
  refine lv_iadd hx hb dX12_meanFrom_22 ?_
  obtain ⟨x6_1, ex6_1, h⟩ := lt_at h
  refine q_top ex6_1 ?_
  refine lv_istore (lv' := [(6, .int x6_1), (0, .ref (E.2.1 (0))), (1, .int p1), (2, .int p2), (3, .int p3), (4, .int p4), (5, .int p5)]) hx hb dX12_meanFrom_23 hl (by decide) rfl (fun ls hl => ?_)
  refine lv_aload_n hx hb dX12_meanFrom_25 rfl (lv_at hl 1 rfl) ?_
  refine gf_12_22 C hw tM_0 kw_1040 dX12_meanFrom_26 ?_
  refine lv_iload hx hb dX12_meanFrom_29 (lv_at hl 0 rfl) ?_
  obtain ⟨g_2, h⟩ := gd_at h
  refine q_iald C hw tM_11 g_2 dX12_meanFrom_31 ?_
  refine lv_aload_n hx hb dX12_meanFrom_32 rfl (lv_at hl 1 rfl) ?_
  refine gf_12_26 C hw tM_0 kw_1044 dX12_meanFrom_33 ?_
  refine lv_icmp_eq (tgt := 72) hx hb dX12_meanFrom_36 (by decide) (fun c_3 => ?_) (fun c_3 => ?_)
  · replace h := it_at h c_3
    refine lv_aload_n hx hb dX12_meanFrom_72 rfl (lv_at hl 1 rfl) ?_
    refine gf_12_24 C hw tM_0 kw_1042 dX12_meanFrom_73 ?_
    refine lv_iload hx hb dX12_meanFrom_76 (lv_at hl 0 rfl) ?_
    obtain ⟨g_4, h⟩ := gd_at h
    refine q_lald C hw tM_13 g_4 dX12_meanFrom_78 ?_
    obtain ⟨rfl, rfl⟩ := ret_at h
    exact q_lret C hw dX12_meanFrom_79
  · replace h := ie_at h c_3
    refine lv_aload_n hx hb dX12_meanFrom_39 rfl (lv_at hl 1 rfl) ?_
    refine lv_iload_n hx hb dX12_meanFrom_40 rfl (lv_at hl 2 rfl) ?_
    refine lv_iload_n hx hb dX12_meanFrom_41 rfl (lv_at hl 3 rfl) ?_
    refine lv_iload_n hx hb dX12_meanFrom_42 rfl (lv_at hl 4 rfl) ?_
    refine lv_iload hx hb dX12_meanFrom_43 (lv_at hl 5 rfl) ?_
    refine lv_iload hx hb dX12_meanFrom_45 (lv_at hl 6 rfl) ?_
    obtain ⟨r_5, σ_6, h_7, h⟩ := bd_at h
    refine q_afterL hw (q_runV C hw hl.1 (As := [.int p1, .int p2, .int p3, .int p4, .int p5]) (rest := []) (m_X12_meanAnew l E rc hF hL hrc p1 p2 p3 p4 p5 σ r_5 σ_6 h_7) yq_X12_meanAnew tM_0 rfl rfl kw_1321 ⟨by dsimp only; omega, by dsimp only; omega⟩ rfl (Nat.le_of_ble_eq_true rfl) ⟨Nat.zero_le _, Nat.zero_le _⟩ dX12_meanFrom_47) (fun H locs hw => ?_)
    refine lv_lstore (lv' := [(7, .long r_5), (6, .int x6_1), (0, .ref (E.2.1 (0))), (1, .int p1), (2, .int p2), (3, .int p3), (4, .int p4), (5, .int p5)]) hx hb dX12_meanFrom_50 hl (by decide) rfl (fun ls hl => ?_)
    refine lv_aload_n hx hb dX12_meanFrom_52 rfl (lv_at hl 2 rfl) ?_
    refine gf_12_22 C hw tM_0 kw_1040 dX12_meanFrom_53 ?_
    refine lv_iload hx hb dX12_meanFrom_56 (lv_at hl 1 rfl) ?_
    refine lv_aload_n hx hb dX12_meanFrom_58 rfl (lv_at hl 2 rfl) ?_
    refine gf_12_26 C hw tM_0 kw_1044 dX12_meanFrom_59 ?_
    obtain ⟨g_9, h⟩ := gd_at h
    obtain ⟨σ_8, eσ_8, h⟩ := lt_at h
    refine q_iast C hw tM_11 g_9 eσ_8 dX12_meanFrom_62 (fun H locs hw => ?_)
    refine lv_aload_n hx hb dX12_meanFrom_63 rfl (lv_at hl 2 rfl) ?_
    refine gf_12_24 C hw tM_0 kw_1042 dX12_meanFrom_64 ?_
    refine lv_iload hx hb dX12_meanFrom_67 (lv_at hl 1 rfl) ?_
    refine lv_lload hx hb dX12_meanFrom_69 (lv_at hl 0 rfl) ?_
    obtain ⟨g_11, h⟩ := gd_at h
    obtain ⟨σ_10, eσ_10, h⟩ := lt_at h
    refine q_last C hw tM_13 g_11 eσ_10 dX12_meanFrom_71 (fun H locs hw => ?_)
    refine lv_aload_n hx hb dX12_meanFrom_72 rfl (lv_at hl 2 rfl) ?_
    refine gf_12_24 C hw tM_0 kw_1042 dX12_meanFrom_73 ?_
    refine lv_iload hx hb dX12_meanFrom_76 (lv_at hl 1 rfl) ?_
    obtain ⟨g_12, h⟩ := gd_at h
    refine q_lald C hw tM_13 g_12 dX12_meanFrom_78 ?_
    obtain ⟨rfl, rfl⟩ := ret_at h
    exact q_lret C hw dX12_meanFrom_79
theorem md_X12_meanFrom (l : Launch) (E : EV) : ∀ (d : Nat) (p1 : Int32) (p2 : Int32) (p3 : Int32) (p4 : Int32) (p5 : Int32) (σ : Mem) (rr : Int64) (τ : Mem), fx6 f_X12_meanFrom_F d p1 p2 p3 p4 p5 σ = some (rr, τ) → ML TM l E yX12_meanFrom cX12_meanFrom 9 (some .long) (200 + 3 * d) (8000 + 85 * d) [.ref (E.2.1 (0)), .int p1, .int p2, .int p3, .int p4, .int p5] σ rr τ := by
  intro d
  induction d with
  | zero =>
    intro p1 p2 p3 p4 p5 σ rr τ h
    have h : none = some (rr, τ) := h
    cases h
  | succ n ih =>
    intro p1 p2 p3 p4 p5 σ rr τ h
    have e1 : 200 + 3 * (n + 1) = (200 + 3 * n) + 3 := by omega
    have e2 : 8000 + 85 * (n + 1) = (8000 + 85 * n) + 85 := by omega
    rw [e1, e2]
    exact m_X12_meanFrom_F l E (rc := fx6 f_X12_meanFrom_F n) (fr := 200 + 3 * n) (lo := 8000 + 85 * n) (by omega) (by omega) ih p1 p2 p3 p4 p5 σ rr τ h
theorem m_X12_meanFrom (l : Launch) (E : EV) (p1 : Int32) (p2 : Int32) (p3 : Int32) (p4 : Int32) (p5 : Int32) (σ : Mem) (rr : Int64) (τ : Mem) (h : f_X12_meanFrom p1 p2 p3 p4 p5 σ = some (rr, τ)) : ML TM l E yX12_meanFrom cX12_meanFrom 9 (some .long) 248 9360 [.ref (E.2.1 (0)), .int p1, .int p2, .int p3, .int p4, .int p5] σ rr τ := md_X12_meanFrom l E 16 p1 p2 p3 p4 p5 σ rr τ h
def f_X12_behindx (p1 : Int32) (p2 : Int32) (p3 : Int32) (p4 : Int32) (σ : Mem) : Option (Int64 × Mem) := f_X12_behind f_X12_meanFrom p1 p2 p3 p4 σ
theorem m_X12_behindx (l : Launch) (E : EV) (p1 : Int32) (p2 : Int32) (p3 : Int32) (p4 : Int32) (σ : Mem) (rr : Int64) (τ : Mem) (h : f_X12_behindx p1 p2 p3 p4 σ = some (rr, τ)) : ML TM l E yX12_behind cX12_behind 9 (some .long) 249 9388 [.ref (E.2.1 (0)), .int p1, .int p2, .int p3, .int p4] σ rr τ := m_X12_behind l E (rc := f_X12_meanFrom) (fr := 248) (lo := 9360) (by decide) (by decide) (m_X12_meanFrom l E) p1 p2 p3 p4 σ rr τ h
def f_X12_meanAnewx (p1 : Int32) (p2 : Int32) (p3 : Int32) (p4 : Int32) (p5 : Int32) (σ : Mem) : Option (Int64 × Mem) := f_X12_meanAnew f_X12_meanFrom p1 p2 p3 p4 p5 σ
theorem m_X12_meanAnewx (l : Launch) (E : EV) (p1 : Int32) (p2 : Int32) (p3 : Int32) (p4 : Int32) (p5 : Int32) (σ : Mem) (rr : Int64) (τ : Mem) (h : f_X12_meanAnewx p1 p2 p3 p4 p5 σ = some (rr, τ)) : ML TM l E yX12_meanAnew cX12_meanAnew 10 (some .long) 250 9416 [.ref (E.2.1 (0)), .int p1, .int p2, .int p3, .int p4, .int p5] σ rr τ := m_X12_meanAnew l E (rc := f_X12_meanFrom) (fr := 248) (lo := 9360) (by decide) (by decide) (m_X12_meanFrom l E) p1 p2 p3 p4 p5 σ rr τ h
def f_X12_meanBy (p1 : Int32) (p2 : Int32) (p3 : Int32) (p4 : Int32) (p5 : Int32) (p6 : Int32) (p7 : Int32) (σ : Mem) : Option (Int64 × Mem) :=
  lt (sI σ 0 27 p1) fun σ_1 =>
  lt (sI σ_1 0 28 p2) fun σ_2 =>
  lt (sI σ_2 0 29 p3) fun σ_3 =>
  lt (sI σ_3 0 30 p4) fun σ_4 =>
  lt (sI σ_4 0 31 p6) fun σ_5 =>
  gd (iz p7) <|
  lt (sI σ_5 0 32 p7) fun σ_6 =>
  lt (sI σ_6 0 26 ((gI σ_6 0 26) + (1 : Int32))) fun σ_8 =>
  bd (f_X12_meanFrom (0 : Int32) p5 p5 (gI σ_8 1 7) (gI σ_8 1 8) σ_8) fun r_9 σ_10 =>
  some (r_9, σ_10)
set_option maxHeartbeats 4000000 in
set_option maxRecDepth 100000 in
theorem m_X12_meanBy (l : Launch) (E : EV) (p1 : Int32) (p2 : Int32) (p3 : Int32) (p4 : Int32) (p5 : Int32) (p6 : Int32) (p7 : Int32) (σ : Mem) (rr : Int64) (τ : Mem) (h : f_X12_meanBy p1 p2 p3 p4 p5 p6 p7 σ = some (rr, τ)) : ML TM l E yX12_meanBy cX12_meanBy 8 (some .long) 249 9388 [.ref (E.2.1 (0)), .int p1, .int p2, .int p3, .int p4, .int p5, .int p6, .int p7] σ rr τ := by
  refine mt_start RX12 (by decide +kernel) rfl (Nat.le_of_ble_eq_true rfl) (fun p e s m args below meth c ls C hw hl => ?_)
  replace hl : lv_has ls 8 [(0, .ref (E.2.1 (0))), (1, .int p1), (2, .int p2), (3, .int p3), (4, .int p4), (5, .int p5), (6, .int p6), (7, .int p7)] := hl
  obtain ⟨hx, hb, hml, hown, hts, hK, hSt, hlk, hr⟩ := id C
  unfold f_X12_meanBy at h
  refine lv_aload_n hx hb dX12_meanBy_0 rfl (lv_at hl 0 rfl) ?_
  refine lv_iload_n hx hb dX12_meanBy_1 rfl (lv_at hl 1 rfl) ?_
  obtain ⟨σ_1, eσ_1, h⟩ := lt_at h
  refine pf_12_27 C hw tM_0 kw_1045 eσ_1 dX12_meanBy_2 (fun H locs hw => ?_)
  refine lv_aload_n hx hb dX12_meanBy_5 rfl (lv_at hl 0 rfl) ?_
  refine lv_iload_n hx hb dX12_meanBy_6 rfl (lv_at hl 2 rfl) ?_
  obtain ⟨σ_2, eσ_2, h⟩ := lt_at h
  refine pf_12_28 C hw tM_0 kw_1046 eσ_2 dX12_meanBy_7 (fun H locs hw => ?_)
  refine lv_aload_n hx hb dX12_meanBy_10 rfl (lv_at hl 0 rfl) ?_
  refine lv_iload_n hx hb dX12_meanBy_11 rfl (lv_at hl 3 rfl) ?_
  obtain ⟨σ_3, eσ_3, h⟩ := lt_at h
  refine pf_12_29 C hw tM_0 kw_1047 eσ_3 dX12_meanBy_12 (fun H locs hw => ?_)
  refine lv_aload_n hx hb dX12_meanBy_15 rfl (lv_at hl 0 rfl) ?_
  refine lv_iload hx hb dX12_meanBy_16 (lv_at hl 4 rfl) ?_
  obtain ⟨σ_4, eσ_4, h⟩ := lt_at h
  refine pf_12_30 C hw tM_0 kw_1048 eσ_4 dX12_meanBy_18 (fun H locs hw => ?_)
  refine lv_aload_n hx hb dX12_meanBy_21 rfl (lv_at hl 0 rfl) ?_
  refine lv_iload hx hb dX12_meanBy_22 (lv_at hl 6 rfl) ?_
  obtain ⟨σ_5, eσ_5, h⟩ := lt_at h
  refine pf_12_31 C hw tM_0 kw_1049 eσ_5 dX12_meanBy_24 (fun H locs hw => ?_)
  refine lv_aload_n hx hb dX12_meanBy_27 rfl (lv_at hl 0 rfl) ?_
  refine lv_iload hx hb dX12_meanBy_28 (lv_at hl 7 rfl) ?_
  obtain ⟨g_7, h⟩ := gd_at h
  obtain ⟨σ_6, eσ_6, h⟩ := lt_at h
  refine pf_12_32 C hw tM_0 kw_1050 g_7 eσ_6 dX12_meanBy_30 (fun H locs hw => ?_)
  refine lv_aload_n hx hb dX12_meanBy_33 rfl (lv_at hl 0 rfl) ?_
  refine lv_dup hx hb dX12_meanBy_34 rfl ?_
  refine gf_12_26 C hw tM_0 kw_1044 dX12_meanBy_35 ?_
  refine lv_iconst (v := 1) hx hb dX12_meanBy_38 (by decide) ?_
  refine lv_iadd hx hb dX12_meanBy_39 ?_
  obtain ⟨σ_8, eσ_8, h⟩ := lt_at h
  refine pf_12_26 C hw tM_0 kw_1044 eσ_8 dX12_meanBy_40 (fun H locs hw => ?_)
  refine lv_aload_n hx hb dX12_meanBy_43 rfl (lv_at hl 0 rfl) ?_
  refine lv_iconst (v := 0) hx hb dX12_meanBy_44 (by decide) ?_
  refine lv_iload hx hb dX12_meanBy_45 (lv_at hl 5 rfl) ?_
  refine lv_iload hx hb dX12_meanBy_47 (lv_at hl 5 rfl) ?_
  refine lv_aload_n hx hb dX12_meanBy_49 rfl (lv_at hl 0 rfl) ?_
  refine gf_12_1 C hw tM_0 kw_1019 dX12_meanBy_50 ?_
  refine lv_bipush (v := 7) hx hb dX12_meanBy_53 (by decide) ?_
  refine q_ialdk C hw tM_1 (k := 7) (by rfl) (by decide) (by decide) dX12_meanBy_55 ?_
  refine lv_aload_n hx hb dX12_meanBy_56 rfl (lv_at hl 0 rfl) ?_
  refine gf_12_1 C hw tM_0 kw_1019 dX12_meanBy_57 ?_
  refine lv_bipush (v := 8) hx hb dX12_meanBy_60 (by decide) ?_
  refine q_ialdk C hw tM_1 (k := 8) (by rfl) (by decide) (by decide) dX12_meanBy_62 ?_
  obtain ⟨r_9, σ_10, h_11, h⟩ := bd_at h
  refine q_afterL hw (q_runV C hw hl.1 (As := [.int (0 : Int32), .int p5, .int p5, .int (gI σ_8 1 7), .int (gI σ_8 1 8)]) (rest := []) (m_X12_meanFrom l E (0 : Int32) p5 p5 (gI σ_8 1 7) (gI σ_8 1 8) σ_8 r_9 σ_10 h_11) yq_X12_meanFrom tM_0 rfl rfl kw_1317 ⟨Nat.le_of_ble_eq_true rfl, Nat.le_of_ble_eq_true rfl⟩ rfl (Nat.le_of_ble_eq_true rfl) ⟨Nat.zero_le _, Nat.zero_le _⟩ dX12_meanBy_63) (fun H locs hw => ?_)
  obtain ⟨rfl, rfl⟩ := ret_at h
  exact q_lret C hw dX12_meanBy_66
def f_X12_best_150 (k109 : Int32 → Int32 → Int32 → Int64 → Int64 → Int32 → Mem → Option (Int64 × Mem)) (x1 : Int32) (x2 : Int32) (x3 : Int32) (x4 : Int64) (x8 : Int32) (s0 : Int64) (σ : Mem) : Option (Int64 × Mem) :=
  lt (x8 + (1 : Int32)) fun x8_34 =>
  k109 x1 x2 x3 x4 s0 x8_34 σ
def f_X12_best_109 (k109 : Int32 → Int32 → Int32 → Int64 → Int64 → Int32 → Mem → Option (Int64 × Mem)) (x1 : Int32) (x2 : Int32) (x3 : Int32) (x4 : Int64) (x6 : Int64) (x8 : Int32) (σ : Mem) : Option (Int64 × Mem) :=
  if (8 : Int32) ≤ x8 then
    (some (x4 - x6, σ))
  else
    if x3 = (2 : Int32) then
      (bd (f_X12_meanBy (1 : Int32) x8 (-1 : Int32) x1 x2 (-1 : Int32) (0 : Int32) σ) fun r_30 σ_31 =>
      if (lg_cmp r_30 x6) ≤ 0 then
        (f_X12_best_150 k109 x1 x2 x3 x4 x8 x6 σ_31)
      else
        f_X12_best_150 k109 x1 x2 x3 x4 x8 r_30 σ_31)
    else
      some (x4 - x6, σ)
def f_X12_best (p1 : Int32) (p2 : Int32) (p3 : Int32) (σ : Mem) : Option (Int64 × Mem) :=
  bd (f_X12_in p1 (1 : Int32) (6 : Int32) σ) fun r_1 σ_2 =>
  if r_1 = 0 then
    (some ((-9223372036854775808 : Int64), σ_2))
  else
    bd (f_X12_isWind p2 σ_2) fun r_5 σ_6 =>
    if r_5 = 0 then
      (some ((-9223372036854775808 : Int64), σ_6))
    else
      bd (f_X12_in p3 (0 : Int32) (2 : Int32) σ_6) fun r_9 σ_10 =>
      if r_9 = 0 then
        (some ((-9223372036854775808 : Int64), σ_10))
      else
        bd (f_X12_isLed σ_10) fun r_13 σ_14 =>
        if r_13 = 0 then
          (some ((-9223372036854775808 : Int64), σ_14))
        else
          if (gI σ_14 1 10) = (1 : Int32) then
            (some ((0 : Int64), σ_14))
          else
            bv (f_X12_begins σ_14) fun σ_19 =>
            if p3 = 0 then
              (bd (f_X12_bestSetting p1 p2 (gI σ_19 1 7) (gI σ_19 1 8) (-1 : Int32) σ_19) fun r_25 σ_26 =>
              some (r_25.toInt64, σ_26))
            else
              bd (f_X12_bestFrom p1 p2 (gI σ_19 1 7) (gI σ_19 1 8) σ_19) fun r_22 σ_23 =>
              fx7 (f_X12_best_109) FU p1 p2 p3 r_22 (0 : Int64) (0 : Int32) σ_23
set_option maxHeartbeats 4000000 in
set_option maxRecDepth 100000 in
theorem w_X12_best_150 {p : Program} {l : Launch} {e : Env} {s : State} {m : MethodId} {args : Array Value} {below : List Frame} {meth : Method} {c : Code} {E : EV} {rr : Int64} {τ : Mem} (C : Cx E p s m args meth c cX12_best 11 (some .long) RX12) (k109 : Int32 → Int32 → Int32 → Int64 → Int64 → Int32 → Mem → Option (Int64 × Mem)) (hk109 : ∀ (x1 : Int32) (x2 : Int32) (x3 : Int32) (x4 : Int64) (x6 : Int64) (x8 : Int32) (σ : Mem) (H : Heap) (locs : List Loc) (ls : Array Slot) (hw : Wd TM E σ s H locs) (hl : lv_has ls 11 [(0, .ref (E.2.1 (0))), (1, .int x1), (2, .int x2), (3, .int x3), (4, .long x4), (6, .long x6), (8, .int x8)]) (h : k109 x1 x2 x3 x4 x6 x8 σ = some (rr, τ)), W p l e { frames := 250, cells := 0, slots := 0, locals := 9415 } s m args below meth c H locs 0 0 (MQ below (QL TM E rr τ) args s 0 0 E.2.2.1) (F0 m 109 ls [])) : ∀ (x1 : Int32) (x2 : Int32) (x3 : Int32) (x4 : Int64) (x8 : Int32) (s0 : Int64) (σ : Mem) (H : Heap) (locs : List Loc) (ls : Array Slot) (hw : Wd TM E σ s H locs) (hl : lv_has ls 11 [(0, .ref (E.2.1 (0))), (1, .int x1), (2, .int x2), (3, .int x3), (4, .long x4), (8, .int x8)]) (h : f_X12_best_150 k109 x1 x2 x3 x4 x8 s0 σ = some (rr, τ)), W p l e { frames := 250, cells := 0, slots := 0, locals := 9415 } s m args below meth c H locs 0 0 (MQ below (QL TM E rr τ) args s 0 0 E.2.2.1) (F0 m 150 ls [.long s0]) := by
  obtain ⟨hx, hb, hml, hown, hts, hK, hSt, hlk, hr⟩ := id C
  intro x1 x2 x3 x4 x8 s0 σ H locs ls hw hl h
  unfold f_X12_best_150 at h
  refine lv_lstore (lv' := [(6, .long s0), (0, .ref (E.2.1 (0))), (1, .int x1), (2, .int x2), (3, .int x3), (4, .long x4), (8, .int x8)]) hx hb dX12_best_150 hl (by decide) rfl (fun ls hl => ?_)
  obtain ⟨x8_34, ex8_34, h⟩ := lt_at h
  refine lv_iinc (v := x8_34) (lv' := [(8, .int x8_34), (6, .long s0), (0, .ref (E.2.1 (0))), (1, .int x1), (2, .int x2), (3, .int x3), (4, .long x4)]) hx hb dX12_best_152 hl (k := 6) rfl (by rw [ex8_34]; rfl) (by decide) rfl (fun ls hl => ?_)
  refine lv_goto (tgt := 109) hx hb dX12_best_155 (by decide) ?_
  exact hk109 _ _ _ _ _ _ _ _ _ _ hw (lv_sub hl [2, 3, 4, 5, 6, 1, 0] rfl) h
set_option maxHeartbeats 4000000 in
set_option maxRecDepth 100000 in
theorem w_X12_best_109 {p : Program} {l : Launch} {e : Env} {s : State} {m : MethodId} {args : Array Value} {below : List Frame} {meth : Method} {c : Code} {E : EV} {rr : Int64} {τ : Mem} (C : Cx E p s m args meth c cX12_best 11 (some .long) RX12) : ∀ (n : Nat) (x1 : Int32) (x2 : Int32) (x3 : Int32) (x4 : Int64) (x6 : Int64) (x8 : Int32) (σ : Mem) (H : Heap) (locs : List Loc) (ls : Array Slot) (hw : Wd TM E σ s H locs) (hl : lv_has ls 11 [(0, .ref (E.2.1 (0))), (1, .int x1), (2, .int x2), (3, .int x3), (4, .long x4), (6, .long x6), (8, .int x8)]) (h : fx7 (f_X12_best_109) n x1 x2 x3 x4 x6 x8 σ = some (rr, τ)), W p l e { frames := 250, cells := 0, slots := 0, locals := 9415 } s m args below meth c H locs 0 0 (MQ below (QL TM E rr τ) args s 0 0 E.2.2.1) (F0 m 109 ls []) := by
  obtain ⟨hx, hb, hml, hown, hts, hK, hSt, hlk, hr⟩ := id C
  intro n
  induction n with
  | zero =>
    intro x1 x2 x3 x4 x6 x8 σ H locs ls hw hl h
    have h : none = some (rr, τ) := h
    cases h
  | succ n hk109 =>
    intro x1 x2 x3 x4 x6 x8 σ H locs ls hw hl h
    replace h : f_X12_best_109 (fx7 (f_X12_best_109) n) x1 x2 x3 x4 x6 x8 σ = some (rr, τ) := h
    unfold f_X12_best_109 at h
    refine lv_iload hx hb dX12_best_109 (lv_at hl 6 rfl) ?_
    refine lv_bipush (v := 8) hx hb dX12_best_111 (by decide) ?_
    refine lv_icmp_ge (tgt := 158) hx hb dX12_best_113 (by decide) (fun c_28 => ?_) (fun c_28 => ?_)
    · replace h := it_at h c_28
      refine lv_lload hx hb dX12_best_158 (lv_at hl 4 rfl) ?_
      refine lv_lload hx hb dX12_best_160 (lv_at hl 5 rfl) ?_
      refine lv_lsub hx hb dX12_best_162 ?_
      obtain ⟨rfl, rfl⟩ := ret_at h
      exact q_lret C hw dX12_best_163
    · replace h := ie_at h c_28
      refine lv_iload_n hx hb dX12_best_116 rfl (lv_at hl 3 rfl) ?_
      refine lv_iconst (v := 2) hx hb dX12_best_117 (by decide) ?_
      refine lv_icmp_ne (tgt := 158) hx hb dX12_best_118 (by decide) (fun c_29 => ?_) (fun c_29 => ?_)
      · replace h := ie_at h c_29
        refine lv_lload hx hb dX12_best_158 (lv_at hl 4 rfl) ?_
        refine lv_lload hx hb dX12_best_160 (lv_at hl 5 rfl) ?_
        refine lv_lsub hx hb dX12_best_162 ?_
        obtain ⟨rfl, rfl⟩ := ret_at h
        exact q_lret C hw dX12_best_163
      · replace h := it_at h c_29
        refine lv_aload_n hx hb dX12_best_121 rfl (lv_at hl 0 rfl) ?_
        refine lv_iconst (v := 1) hx hb dX12_best_122 (by decide) ?_
        refine lv_iload hx hb dX12_best_123 (lv_at hl 6 rfl) ?_
        refine lv_iconst (v := (-1)) hx hb dX12_best_125 (by decide) ?_
        refine lv_iload_n hx hb dX12_best_126 rfl (lv_at hl 1 rfl) ?_
        refine lv_iload_n hx hb dX12_best_127 rfl (lv_at hl 2 rfl) ?_
        refine lv_iconst (v := (-1)) hx hb dX12_best_128 (by decide) ?_
        refine lv_iconst (v := 0) hx hb dX12_best_129 (by decide) ?_
        obtain ⟨r_30, σ_31, h_32, h⟩ := bd_at h
        refine q_afterL hw (q_runV C hw hl.1 (As := [.int (1 : Int32), .int x8, .int (-1 : Int32), .int x1, .int x2, .int (-1 : Int32), .int (0 : Int32)]) (rest := []) (m_X12_meanBy l E (1 : Int32) x8 (-1 : Int32) x1 x2 (-1 : Int32) (0 : Int32) σ r_30 σ_31 h_32) yq_X12_meanBy tM_0 rfl rfl kw_1313 ⟨Nat.le_of_ble_eq_true rfl, Nat.le_of_ble_eq_true rfl⟩ rfl (Nat.le_of_ble_eq_true rfl) ⟨Nat.zero_le _, Nat.zero_le _⟩ dX12_best_130) (fun H locs hw => ?_)
        refine lv_lstore (lv' := [(9, .long r_30), (0, .ref (E.2.1 (0))), (1, .int x1), (2, .int x2), (3, .int x3), (4, .long x4), (6, .long x6), (8, .int x8)]) hx hb dX12_best_133 hl (by decide) rfl (fun ls hl => ?_)
        refine lv_lload hx hb dX12_best_135 (lv_at hl 0 rfl) ?_
        refine lv_lload hx hb dX12_best_137 (lv_at hl 6 rfl) ?_
        refine W.lcmp hx hb dX12_best_139 ?_
        refine lv_if_le (tgt := 148) hx hb dX12_best_140 (by decide) (fun c_33 => ?_) (fun c_33 => ?_)
        · replace h := it_at h c_33
          refine lv_lload hx hb dX12_best_148 (lv_at hl 6 rfl) ?_
          exact w_X12_best_150 C _ hk109 _ _ _ _ _ _ _ _ _ _ hw (lv_sub hl [1, 2, 3, 4, 5, 7] rfl) h
        · replace h := ie_at h c_33
          refine lv_lload hx hb dX12_best_143 (lv_at hl 0 rfl) ?_
          refine lv_goto (tgt := 150) hx hb dX12_best_145 (by decide) ?_
          exact w_X12_best_150 C _ hk109 _ _ _ _ _ _ _ _ _ _ hw (lv_sub hl [1, 2, 3, 4, 5, 7] rfl) h
set_option maxHeartbeats 4000000 in
set_option maxRecDepth 100000 in
theorem m_X12_best (l : Launch) (E : EV) (p1 : Int32) (p2 : Int32) (p3 : Int32) (σ : Mem) (rr : Int64) (τ : Mem) (h : f_X12_best p1 p2 p3 σ = some (rr, τ)) : ML TM l E yX12_best cX12_best 11 (some .long) 250 9415 [.ref (E.2.1 (0)), .int p1, .int p2, .int p3] σ rr τ := by
  refine mt_start RX12 (by decide +kernel) rfl (Nat.le_of_ble_eq_true rfl) (fun p e s m args below meth c ls C hw hl => ?_)
  replace hl : lv_has ls 11 [(0, .ref (E.2.1 (0))), (1, .int p1), (2, .int p2), (3, .int p3)] := hl
  obtain ⟨hx, hb, hml, hown, hts, hK, hSt, hlk, hr⟩ := id C
  unfold f_X12_best at h
  refine lv_iload_n hx hb dX12_best_0 rfl (lv_at hl 1 rfl) ?_
  refine lv_iconst (v := 1) hx hb dX12_best_1 (by decide) ?_
  refine lv_bipush (v := 6) hx hb dX12_best_2 (by decide) ?_
  obtain ⟨r_1, σ_2, h_3, h⟩ := bd_at h
  refine q_afterI hw (q_runS C hw hl.1 (As := [.int p1, .int (1 : Int32), .int (6 : Int32)]) (rest := []) (m_X12_in l E p1 (1 : Int32) (6 : Int32) σ r_1 σ_2 h_3) yq_X12_in kw_1142 ⟨Nat.le_of_ble_eq_true rfl, Nat.le_of_ble_eq_true rfl⟩ rfl (Nat.le_of_ble_eq_true rfl) ⟨Nat.zero_le _, Nat.zero_le _⟩ dX12_best_4) (fun H locs hw => ?_)
  refine lv_if_eq (tgt := 33) hx hb dX12_best_7 (by decide) (fun c_4 => ?_) (fun c_4 => ?_)
  · replace h := it_at h c_4
    refine lv_ldc2 hx hb hown (hts _ kw_1312) dX12_best_33 ?_
    obtain ⟨rfl, rfl⟩ := ret_at h
    exact q_lret C hw dX12_best_36
  · replace h := ie_at h c_4
    refine lv_iload_n hx hb dX12_best_10 rfl (lv_at hl 2 rfl) ?_
    obtain ⟨r_5, σ_6, h_7, h⟩ := bd_at h
    refine q_afterI hw (q_runS C hw hl.1 (As := [.int p2]) (rest := []) (m_X12_isWind l E p2 σ_2 r_5 σ_6 h_7) yq_X12_isWind kw_1217 ⟨Nat.le_of_ble_eq_true rfl, Nat.le_of_ble_eq_true rfl⟩ rfl (Nat.le_of_ble_eq_true rfl) ⟨Nat.zero_le _, Nat.zero_le _⟩ dX12_best_11) (fun H locs hw => ?_)
    refine lv_if_eq (tgt := 33) hx hb dX12_best_14 (by decide) (fun c_8 => ?_) (fun c_8 => ?_)
    · replace h := it_at h c_8
      refine lv_ldc2 hx hb hown (hts _ kw_1312) dX12_best_33 ?_
      obtain ⟨rfl, rfl⟩ := ret_at h
      exact q_lret C hw dX12_best_36
    · replace h := ie_at h c_8
      refine lv_iload_n hx hb dX12_best_17 rfl (lv_at hl 3 rfl) ?_
      refine lv_iconst (v := 0) hx hb dX12_best_18 (by decide) ?_
      refine lv_iconst (v := 2) hx hb dX12_best_19 (by decide) ?_
      obtain ⟨r_9, σ_10, h_11, h⟩ := bd_at h
      refine q_afterI hw (q_runS C hw hl.1 (As := [.int p3, .int (0 : Int32), .int (2 : Int32)]) (rest := []) (m_X12_in l E p3 (0 : Int32) (2 : Int32) σ_6 r_9 σ_10 h_11) yq_X12_in kw_1142 ⟨Nat.le_of_ble_eq_true rfl, Nat.le_of_ble_eq_true rfl⟩ rfl (Nat.le_of_ble_eq_true rfl) ⟨Nat.zero_le _, Nat.zero_le _⟩ dX12_best_20) (fun H locs hw => ?_)
      refine lv_if_eq (tgt := 33) hx hb dX12_best_23 (by decide) (fun c_12 => ?_) (fun c_12 => ?_)
      · replace h := it_at h c_12
        refine lv_ldc2 hx hb hown (hts _ kw_1312) dX12_best_33 ?_
        obtain ⟨rfl, rfl⟩ := ret_at h
        exact q_lret C hw dX12_best_36
      · replace h := ie_at h c_12
        refine lv_aload_n hx hb dX12_best_26 rfl (lv_at hl 0 rfl) ?_
        obtain ⟨r_13, σ_14, h_15, h⟩ := bd_at h
        refine q_afterI hw (q_runV C hw hl.1 (As := []) (rest := []) (m_X12_isLed l E  σ_10 r_13 σ_14 h_15) yq_X12_isLed tM_0 rfl rfl kw_1251 ⟨Nat.le_of_ble_eq_true rfl, Nat.le_of_ble_eq_true rfl⟩ rfl (Nat.le_of_ble_eq_true rfl) ⟨Nat.zero_le _, Nat.zero_le _⟩ dX12_best_27) (fun H locs hw => ?_)
        refine lv_if_ne (tgt := 37) hx hb dX12_best_30 (by decide) (fun c_16 => ?_) (fun c_16 => ?_)
        · replace h := ie_at h c_16
          refine lv_aload_n hx hb dX12_best_37 rfl (lv_at hl 0 rfl) ?_
          refine gf_12_1 C hw tM_0 kw_1019 dX12_best_38 ?_
          refine lv_bipush (v := 10) hx hb dX12_best_41 (by decide) ?_
          refine q_ialdk C hw tM_1 (k := 10) (by rfl) (by decide) (by decide) dX12_best_43 ?_
          refine lv_iconst (v := 1) hx hb dX12_best_44 (by decide) ?_
          refine lv_icmp_ne (tgt := 50) hx hb dX12_best_45 (by decide) (fun c_17 => ?_) (fun c_17 => ?_)
          · replace h := ie_at h c_17
            refine lv_aload_n hx hb dX12_best_50 rfl (lv_at hl 0 rfl) ?_
            obtain ⟨σ_19, h_20, h⟩ := bv_at h
            refine q_afterV hw (q_runV C hw hl.1 (As := []) (rest := []) (m_X12_begins l E  σ_14 σ_19 h_20) yq_X12_begins tM_0 rfl rfl kw_1275 ⟨Nat.le_of_ble_eq_true rfl, Nat.le_of_ble_eq_true rfl⟩ rfl (Nat.le_of_ble_eq_true rfl) ⟨Nat.zero_le _, Nat.zero_le _⟩ dX12_best_51) (fun H locs hw => ?_)
            refine lv_iload_n hx hb dX12_best_54 rfl (lv_at hl 3 rfl) ?_
            refine lv_if_ne (tgt := 81) hx hb dX12_best_55 (by decide) (fun c_21 => ?_) (fun c_21 => ?_)
            · replace h := ie_at h c_21
              refine lv_aload_n hx hb dX12_best_81 rfl (lv_at hl 0 rfl) ?_
              refine lv_iload_n hx hb dX12_best_82 rfl (lv_at hl 1 rfl) ?_
              refine lv_iload_n hx hb dX12_best_83 rfl (lv_at hl 2 rfl) ?_
              refine lv_aload_n hx hb dX12_best_84 rfl (lv_at hl 0 rfl) ?_
              refine gf_12_1 C hw tM_0 kw_1019 dX12_best_85 ?_
              refine lv_bipush (v := 7) hx hb dX12_best_88 (by decide) ?_
              refine q_ialdk C hw tM_1 (k := 7) (by rfl) (by decide) (by decide) dX12_best_90 ?_
              refine lv_aload_n hx hb dX12_best_91 rfl (lv_at hl 0 rfl) ?_
              refine gf_12_1 C hw tM_0 kw_1019 dX12_best_92 ?_
              refine lv_bipush (v := 8) hx hb dX12_best_95 (by decide) ?_
              refine q_ialdk C hw tM_1 (k := 8) (by rfl) (by decide) (by decide) dX12_best_97 ?_
              obtain ⟨r_22, σ_23, h_24, h⟩ := bd_at h
              refine q_afterL hw (q_runV C hw hl.1 (As := [.int p1, .int p2, .int (gI σ_19 1 7), .int (gI σ_19 1 8)]) (rest := []) (m_X12_bestFrom l E p1 p2 (gI σ_19 1 7) (gI σ_19 1 8) σ_19 r_22 σ_23 h_24) yq_X12_bestFrom tM_0 rfl rfl kw_1303 ⟨Nat.le_of_ble_eq_true rfl, Nat.le_of_ble_eq_true rfl⟩ rfl (Nat.le_of_ble_eq_true rfl) ⟨Nat.zero_le _, Nat.zero_le _⟩ dX12_best_98) (fun H locs hw => ?_)
              refine lv_lstore (lv' := [(4, .long r_22), (0, .ref (E.2.1 (0))), (1, .int p1), (2, .int p2), (3, .int p3)]) hx hb dX12_best_101 hl (by decide) rfl (fun ls hl => ?_)
              refine lv_lconst (v := 0) hx hb dX12_best_103 (by decide) ?_
              refine lv_lstore (lv' := [(6, .long (0 : Int64)), (4, .long r_22), (0, .ref (E.2.1 (0))), (1, .int p1), (2, .int p2), (3, .int p3)]) hx hb dX12_best_104 hl (by decide) rfl (fun ls hl => ?_)
              refine lv_iconst (v := 0) hx hb dX12_best_106 (by decide) ?_
              refine lv_istore (lv' := [(8, .int (0 : Int32)), (6, .long (0 : Int64)), (4, .long r_22), (0, .ref (E.2.1 (0))), (1, .int p1), (2, .int p2), (3, .int p3)]) hx hb dX12_best_107 hl (by decide) rfl (fun ls hl => ?_)
              exact w_X12_best_109 C _ _ _ _ _ _ _ _ _ _ _ hw (lv_sub hl [3, 4, 5, 6, 2, 1, 0] rfl) h
            · replace h := it_at h c_21
              refine lv_aload_n hx hb dX12_best_58 rfl (lv_at hl 0 rfl) ?_
              refine lv_iload_n hx hb dX12_best_59 rfl (lv_at hl 1 rfl) ?_
              refine lv_iload_n hx hb dX12_best_60 rfl (lv_at hl 2 rfl) ?_
              refine lv_aload_n hx hb dX12_best_61 rfl (lv_at hl 0 rfl) ?_
              refine gf_12_1 C hw tM_0 kw_1019 dX12_best_62 ?_
              refine lv_bipush (v := 7) hx hb dX12_best_65 (by decide) ?_
              refine q_ialdk C hw tM_1 (k := 7) (by rfl) (by decide) (by decide) dX12_best_67 ?_
              refine lv_aload_n hx hb dX12_best_68 rfl (lv_at hl 0 rfl) ?_
              refine gf_12_1 C hw tM_0 kw_1019 dX12_best_69 ?_
              refine lv_bipush (v := 8) hx hb dX12_best_72 (by decide) ?_
              refine q_ialdk C hw tM_1 (k := 8) (by rfl) (by decide) (by decide) dX12_best_74 ?_
              refine lv_iconst (v := (-1)) hx hb dX12_best_75 (by decide) ?_
              obtain ⟨r_25, σ_26, h_27, h⟩ := bd_at h
              refine q_afterI hw (q_runV C hw hl.1 (As := [.int p1, .int p2, .int (gI σ_19 1 7), .int (gI σ_19 1 8), .int (-1 : Int32)]) (rest := []) (m_X12_bestSetting l E p1 p2 (gI σ_19 1 7) (gI σ_19 1 8) (-1 : Int32) σ_19 r_25 σ_26 h_27) yq_X12_bestSetting tM_0 rfl rfl kw_1291 ⟨Nat.le_of_ble_eq_true rfl, Nat.le_of_ble_eq_true rfl⟩ rfl (Nat.le_of_ble_eq_true rfl) ⟨Nat.zero_le _, Nat.zero_le _⟩ dX12_best_76) (fun H locs hw => ?_)
              refine lv_i2l hx hb dX12_best_79 rfl ?_
              obtain ⟨rfl, rfl⟩ := ret_at h
              exact q_lret C hw dX12_best_80
          · replace h := it_at h c_17
            refine lv_lconst (v := 0) hx hb dX12_best_48 (by decide) ?_
            obtain ⟨rfl, rfl⟩ := ret_at h
            exact q_lret C hw dX12_best_49
        · replace h := it_at h c_16
          refine lv_ldc2 hx hb hown (hts _ kw_1312) dX12_best_33 ?_
          obtain ⟨rfl, rfl⟩ := ret_at h
          exact q_lret C hw dX12_best_36
def f_X12_chance (p1 : Int32) (p2 : Int32) (σ : Mem) : Option (Int32 × Mem) :=
  bd (f_X12_isWind p1 σ) fun r_1 σ_2 =>
  if r_1 = 0 then
    (some ((-1 : Int32), σ_2))
  else
    bd (f_X12_isWind p2 σ_2) fun r_5 σ_6 =>
    if r_5 = 0 then
      (some ((-1 : Int32), σ_6))
    else
      gd (ib (((851 : Int32) + ((6 : Int32) * p1)) + p2) 1055) <|
      some (gI σ_6 1 (((851 : Int32) + ((6 : Int32) * p1)) + p2).toNatClampNeg, σ_6)
set_option maxHeartbeats 4000000 in
set_option maxRecDepth 100000 in
theorem m_X12_chance (l : Launch) (E : EV) (p1 : Int32) (p2 : Int32) (σ : Mem) (rr : Int32) (τ : Mem) (h : f_X12_chance p1 p2 σ = some (rr, τ)) : MI TM l E yX12_chance cX12_chance 3 (some .int) 2 42 [.ref (E.2.1 (0)), .int p1, .int p2] σ rr τ := by
  refine mt_start RX12 (by decide +kernel) rfl (Nat.le_of_ble_eq_true rfl) (fun p e s m args below meth c ls C hw hl => ?_)
  replace hl : lv_has ls 3 [(0, .ref (E.2.1 (0))), (1, .int p1), (2, .int p2)] := hl
  obtain ⟨hx, hb, hml, hown, hts, hK, hSt, hlk, hr⟩ := id C
  unfold f_X12_chance at h
  refine lv_iload_n hx hb dX12_chance_0 rfl (lv_at hl 1 rfl) ?_
  obtain ⟨r_1, σ_2, h_3, h⟩ := bd_at h
  refine q_afterI hw (q_runS C hw hl.1 (As := [.int p1]) (rest := []) (m_X12_isWind l E p1 σ r_1 σ_2 h_3) yq_X12_isWind kw_1217 ⟨Nat.le_of_ble_eq_true rfl, Nat.le_of_ble_eq_true rfl⟩ rfl (Nat.le_of_ble_eq_true rfl) ⟨Nat.zero_le _, Nat.zero_le _⟩ dX12_chance_1) (fun H locs hw => ?_)
  refine lv_if_eq (tgt := 32) hx hb dX12_chance_4 (by decide) (fun c_4 => ?_) (fun c_4 => ?_)
  · replace h := it_at h c_4
    refine lv_iconst (v := (-1)) hx hb dX12_chance_32 (by decide) ?_
    obtain ⟨rfl, rfl⟩ := ret_at h
    exact q_iret C hw dX12_chance_33
  · replace h := ie_at h c_4
    refine lv_iload_n hx hb dX12_chance_7 rfl (lv_at hl 2 rfl) ?_
    obtain ⟨r_5, σ_6, h_7, h⟩ := bd_at h
    refine q_afterI hw (q_runS C hw hl.1 (As := [.int p2]) (rest := []) (m_X12_isWind l E p2 σ_2 r_5 σ_6 h_7) yq_X12_isWind kw_1217 ⟨Nat.le_of_ble_eq_true rfl, Nat.le_of_ble_eq_true rfl⟩ rfl (Nat.le_of_ble_eq_true rfl) ⟨Nat.zero_le _, Nat.zero_le _⟩ dX12_chance_8) (fun H locs hw => ?_)
    refine lv_if_eq (tgt := 32) hx hb dX12_chance_11 (by decide) (fun c_8 => ?_) (fun c_8 => ?_)
    · replace h := it_at h c_8
      refine lv_iconst (v := (-1)) hx hb dX12_chance_32 (by decide) ?_
      obtain ⟨rfl, rfl⟩ := ret_at h
      exact q_iret C hw dX12_chance_33
    · replace h := ie_at h c_8
      refine lv_aload_n hx hb dX12_chance_14 rfl (lv_at hl 0 rfl) ?_
      refine gf_12_1 C hw tM_0 kw_1019 dX12_chance_15 ?_
      refine lv_sipush (v := 851) hx hb dX12_chance_18 (by decide) ?_
      refine lv_bipush (v := 6) hx hb dX12_chance_21 (by decide) ?_
      refine lv_iload_n hx hb dX12_chance_23 rfl (lv_at hl 1 rfl) ?_
      refine lv_imul hx hb dX12_chance_24 ?_
      refine lv_iadd hx hb dX12_chance_25 ?_
      refine lv_iload_n hx hb dX12_chance_26 rfl (lv_at hl 2 rfl) ?_
      refine lv_iadd hx hb dX12_chance_27 ?_
      obtain ⟨g_9, h⟩ := gd_at h
      refine q_iald C hw tM_1 g_9 dX12_chance_28 ?_
      refine lv_goto (tgt := 33) hx hb dX12_chance_29 (by decide) ?_
      obtain ⟨rfl, rfl⟩ := ret_at h
      exact q_iret C hw dX12_chance_33
def f_X12_count (p1 : Int32) (σ : Mem) : Option (Int32 × Mem) :=
  if p1 = (0 : Int32) then
    (some (gI σ 1 0, σ))
  else
  if p1 = (1 : Int32) then
    (some (gI σ 1 1, σ))
  else
  if p1 = (2 : Int32) then
    (some (gI σ 1 2, σ))
  else
  if p1 = (3 : Int32) then
    (some (gI σ 1 3, σ))
  else
  if p1 = (4 : Int32) then
    (some (gI σ 1 4, σ))
  else
  if p1 = (5 : Int32) then
    (some (gI σ 0 35, σ))
  else
  some ((-1 : Int32), σ)
set_option maxHeartbeats 4000000 in
set_option maxRecDepth 100000 in
theorem m_X12_count (l : Launch) (E : EV) (p1 : Int32) (σ : Mem) (rr : Int32) (τ : Mem) (h : f_X12_count p1 σ = some (rr, τ)) : MI TM l E yX12_count cX12_count 2 (some .int) 0 0 [.ref (E.2.1 (0)), .int p1] σ rr τ := by
  refine mt_start RX12 (by decide +kernel) rfl (Nat.le_of_ble_eq_true rfl) (fun p e s m args below meth c ls C hw hl => ?_)
  replace hl : lv_has ls 2 [(0, .ref (E.2.1 (0))), (1, .int p1)] := hl
  obtain ⟨hx, hb, hml, hown, hts, hK, hSt, hlk, hr⟩ := id C
  unfold f_X12_count at h
  refine lv_iload_n hx hb dX12_count_0 rfl (lv_at hl 1 rfl) ?_
  by_cases c_1 : p1 = (0 : Int32)
  · replace h := it_at h c_1
    refine lv_tableIn (off := 39) (tgt := 40) hx hb dX12_count_1 (by rw [c_1]; decide) (by rw [c_1]; decide) (by rw [c_1]; rfl) (by decide) ?_
    refine lv_aload_n hx hb dX12_count_40 rfl (lv_at hl 0 rfl) ?_
    refine gf_12_1 C hw tM_0 kw_1019 dX12_count_41 ?_
    refine lv_iconst (v := 0) hx hb dX12_count_44 (by decide) ?_
    refine q_ialdk C hw tM_1 (k := 0) (by rfl) (by decide) (by decide) dX12_count_45 ?_
    obtain ⟨rfl, rfl⟩ := ret_at h
    exact q_iret C hw dX12_count_46
  replace h := ie_at h c_1
  by_cases c_2 : p1 = (1 : Int32)
  · replace h := it_at h c_2
    refine lv_tableIn (off := 46) (tgt := 47) hx hb dX12_count_1 (by rw [c_2]; decide) (by rw [c_2]; decide) (by rw [c_2]; rfl) (by decide) ?_
    refine lv_aload_n hx hb dX12_count_47 rfl (lv_at hl 0 rfl) ?_
    refine gf_12_1 C hw tM_0 kw_1019 dX12_count_48 ?_
    refine lv_iconst (v := 1) hx hb dX12_count_51 (by decide) ?_
    refine q_ialdk C hw tM_1 (k := 1) (by rfl) (by decide) (by decide) dX12_count_52 ?_
    obtain ⟨rfl, rfl⟩ := ret_at h
    exact q_iret C hw dX12_count_53
  replace h := ie_at h c_2
  by_cases c_3 : p1 = (2 : Int32)
  · replace h := it_at h c_3
    refine lv_tableIn (off := 53) (tgt := 54) hx hb dX12_count_1 (by rw [c_3]; decide) (by rw [c_3]; decide) (by rw [c_3]; rfl) (by decide) ?_
    refine lv_aload_n hx hb dX12_count_54 rfl (lv_at hl 0 rfl) ?_
    refine gf_12_1 C hw tM_0 kw_1019 dX12_count_55 ?_
    refine lv_iconst (v := 2) hx hb dX12_count_58 (by decide) ?_
    refine q_ialdk C hw tM_1 (k := 2) (by rfl) (by decide) (by decide) dX12_count_59 ?_
    obtain ⟨rfl, rfl⟩ := ret_at h
    exact q_iret C hw dX12_count_60
  replace h := ie_at h c_3
  by_cases c_4 : p1 = (3 : Int32)
  · replace h := it_at h c_4
    refine lv_tableIn (off := 60) (tgt := 61) hx hb dX12_count_1 (by rw [c_4]; decide) (by rw [c_4]; decide) (by rw [c_4]; rfl) (by decide) ?_
    refine lv_aload_n hx hb dX12_count_61 rfl (lv_at hl 0 rfl) ?_
    refine gf_12_1 C hw tM_0 kw_1019 dX12_count_62 ?_
    refine lv_iconst (v := 3) hx hb dX12_count_65 (by decide) ?_
    refine q_ialdk C hw tM_1 (k := 3) (by rfl) (by decide) (by decide) dX12_count_66 ?_
    obtain ⟨rfl, rfl⟩ := ret_at h
    exact q_iret C hw dX12_count_67
  replace h := ie_at h c_4
  by_cases c_5 : p1 = (4 : Int32)
  · replace h := it_at h c_5
    refine lv_tableIn (off := 67) (tgt := 68) hx hb dX12_count_1 (by rw [c_5]; decide) (by rw [c_5]; decide) (by rw [c_5]; rfl) (by decide) ?_
    refine lv_aload_n hx hb dX12_count_68 rfl (lv_at hl 0 rfl) ?_
    refine gf_12_1 C hw tM_0 kw_1019 dX12_count_69 ?_
    refine lv_iconst (v := 4) hx hb dX12_count_72 (by decide) ?_
    refine q_ialdk C hw tM_1 (k := 4) (by rfl) (by decide) (by decide) dX12_count_73 ?_
    obtain ⟨rfl, rfl⟩ := ret_at h
    exact q_iret C hw dX12_count_74
  replace h := ie_at h c_5
  by_cases c_6 : p1 = (5 : Int32)
  · replace h := it_at h c_6
    refine lv_tableIn (off := 74) (tgt := 75) hx hb dX12_count_1 (by rw [c_6]; decide) (by rw [c_6]; decide) (by rw [c_6]; rfl) (by decide) ?_
    refine lv_aload_n hx hb dX12_count_75 rfl (lv_at hl 0 rfl) ?_
    refine gf_12_35 C hw tM_0 kw_1053 dX12_count_76 ?_
    obtain ⟨rfl, rfl⟩ := ret_at h
    exact q_iret C hw dX12_count_79
  replace h := ie_at h c_6
  refine lv_tableOut (tgt := 80) hx hb dX12_count_1 (tsw_out (fun k h1 h2 => by
    rcases (show k = 0 ∨ k = 1 ∨ k = 2 ∨ k = 3 ∨ k = 4 ∨ k = 5 by omega) with rfl | rfl | rfl | rfl | rfl | rfl
    · exact c_1
    · exact c_2
    · exact c_3
    · exact c_4
    · exact c_5
    · exact c_6)) (by decide) ?_
  refine lv_iconst (v := (-1)) hx hb dX12_count_80 (by decide) ?_
  obtain ⟨rfl, rfl⟩ := ret_at h
  exact q_iret C hw dX12_count_81
def f_X12_day (p1 : Int32) (p2 : Int32) (σ : Mem) : Option (Int32 × Mem) :=
  if p1 = (-1 : Int32) then
    (lt (sI σ 1 2 (0 : Int32)) fun σ_16 =>
    some ((0 : Int32), σ_16))
  else
    bd (f_X12_isWind p1 σ) fun r_2 σ_3 =>
    if r_2 = 0 then
      (some ((-1 : Int32), σ_3))
    else
      bd (f_X12_in p2 (0 : Int32) (7 : Int32) σ_3) fun r_6 σ_7 =>
      if r_6 = 0 then
        (some ((-2 : Int32), σ_7))
      else
        if (gI σ_7 1 2) = (10 : Int32) then
          (some ((-4 : Int32), σ_7))
        else
          gd (ib ((1017 : Int32) + (gI σ_7 1 2)) 1055) <|
          lt (sI σ_7 1 ((1017 : Int32) + (gI σ_7 1 2)).toNatClampNeg p1) fun σ_11 =>
          gd (ib ((1027 : Int32) + (gI σ_11 1 2)) 1055) <|
          lt (sI σ_11 1 ((1027 : Int32) + (gI σ_11 1 2)).toNatClampNeg p2) fun σ_13 =>
          lt (sI σ_13 1 2 ((gI σ_13 1 2) + (1 : Int32))) fun σ_15 =>
          some (gI σ_15 1 2, σ_15)
set_option maxHeartbeats 4000000 in
set_option maxRecDepth 100000 in
theorem m_X12_day (l : Launch) (E : EV) (p1 : Int32) (p2 : Int32) (σ : Mem) (rr : Int32) (τ : Mem) (h : f_X12_day p1 p2 σ = some (rr, τ)) : MI TM l E yX12_day cX12_day 3 (some .int) 2 42 [.ref (E.2.1 (0)), .int p1, .int p2] σ rr τ := by
  refine mt_start RX12 (by decide +kernel) rfl (Nat.le_of_ble_eq_true rfl) (fun p e s m args below meth c ls C hw hl => ?_)
  replace hl : lv_has ls 3 [(0, .ref (E.2.1 (0))), (1, .int p1), (2, .int p2)] := hl
  obtain ⟨hx, hb, hml, hown, hts, hK, hSt, hlk, hr⟩ := id C
  unfold f_X12_day at h
  refine lv_iload_n hx hb dX12_day_0 rfl (lv_at hl 1 rfl) ?_
  refine lv_iconst (v := (-1)) hx hb dX12_day_1 (by decide) ?_
  refine lv_icmp_ne (tgt := 14) hx hb dX12_day_2 (by decide) (fun c_1 => ?_) (fun c_1 => ?_)
  · replace h := ie_at h c_1
    refine lv_iload_n hx hb dX12_day_14 rfl (lv_at hl 1 rfl) ?_
    obtain ⟨r_2, σ_3, h_4, h⟩ := bd_at h
    refine q_afterI hw (q_runS C hw hl.1 (As := [.int p1]) (rest := []) (m_X12_isWind l E p1 σ r_2 σ_3 h_4) yq_X12_isWind kw_1217 ⟨Nat.le_of_ble_eq_true rfl, Nat.le_of_ble_eq_true rfl⟩ rfl (Nat.le_of_ble_eq_true rfl) ⟨Nat.zero_le _, Nat.zero_le _⟩ dX12_day_15) (fun H locs hw => ?_)
    refine lv_if_ne (tgt := 23) hx hb dX12_day_18 (by decide) (fun c_5 => ?_) (fun c_5 => ?_)
    · replace h := ie_at h c_5
      refine lv_iload_n hx hb dX12_day_23 rfl (lv_at hl 2 rfl) ?_
      refine lv_iconst (v := 0) hx hb dX12_day_24 (by decide) ?_
      refine lv_bipush (v := 7) hx hb dX12_day_25 (by decide) ?_
      obtain ⟨r_6, σ_7, h_8, h⟩ := bd_at h
      refine q_afterI hw (q_runS C hw hl.1 (As := [.int p2, .int (0 : Int32), .int (7 : Int32)]) (rest := []) (m_X12_in l E p2 (0 : Int32) (7 : Int32) σ_3 r_6 σ_7 h_8) yq_X12_in kw_1142 ⟨Nat.le_of_ble_eq_true rfl, Nat.le_of_ble_eq_true rfl⟩ rfl (Nat.le_of_ble_eq_true rfl) ⟨Nat.zero_le _, Nat.zero_le _⟩ dX12_day_27) (fun H locs hw => ?_)
      refine lv_if_ne (tgt := 36) hx hb dX12_day_30 (by decide) (fun c_9 => ?_) (fun c_9 => ?_)
      · replace h := ie_at h c_9
        refine lv_aload_n hx hb dX12_day_36 rfl (lv_at hl 0 rfl) ?_
        refine gf_12_1 C hw tM_0 kw_1019 dX12_day_37 ?_
        refine lv_iconst (v := 2) hx hb dX12_day_40 (by decide) ?_
        refine q_ialdk C hw tM_1 (k := 2) (by rfl) (by decide) (by decide) dX12_day_41 ?_
        refine lv_bipush (v := 10) hx hb dX12_day_42 (by decide) ?_
        refine lv_icmp_ne (tgt := 50) hx hb dX12_day_44 (by decide) (fun c_10 => ?_) (fun c_10 => ?_)
        · replace h := ie_at h c_10
          refine lv_aload_n hx hb dX12_day_50 rfl (lv_at hl 0 rfl) ?_
          refine gf_12_1 C hw tM_0 kw_1019 dX12_day_51 ?_
          refine lv_sipush (v := 1017) hx hb dX12_day_54 (by decide) ?_
          refine lv_aload_n hx hb dX12_day_57 rfl (lv_at hl 0 rfl) ?_
          refine gf_12_1 C hw tM_0 kw_1019 dX12_day_58 ?_
          refine lv_iconst (v := 2) hx hb dX12_day_61 (by decide) ?_
          refine q_ialdk C hw tM_1 (k := 2) (by rfl) (by decide) (by decide) dX12_day_62 ?_
          refine lv_iadd hx hb dX12_day_63 ?_
          refine lv_iload_n hx hb dX12_day_64 rfl (lv_at hl 1 rfl) ?_
          obtain ⟨g_12, h⟩ := gd_at h
          obtain ⟨σ_11, eσ_11, h⟩ := lt_at h
          refine q_iast C hw tM_1 g_12 eσ_11 dX12_day_65 (fun H locs hw => ?_)
          refine lv_aload_n hx hb dX12_day_66 rfl (lv_at hl 0 rfl) ?_
          refine gf_12_1 C hw tM_0 kw_1019 dX12_day_67 ?_
          refine lv_sipush (v := 1027) hx hb dX12_day_70 (by decide) ?_
          refine lv_aload_n hx hb dX12_day_73 rfl (lv_at hl 0 rfl) ?_
          refine gf_12_1 C hw tM_0 kw_1019 dX12_day_74 ?_
          refine lv_iconst (v := 2) hx hb dX12_day_77 (by decide) ?_
          refine q_ialdk C hw tM_1 (k := 2) (by rfl) (by decide) (by decide) dX12_day_78 ?_
          refine lv_iadd hx hb dX12_day_79 ?_
          refine lv_iload_n hx hb dX12_day_80 rfl (lv_at hl 2 rfl) ?_
          obtain ⟨g_14, h⟩ := gd_at h
          obtain ⟨σ_13, eσ_13, h⟩ := lt_at h
          refine q_iast C hw tM_1 g_14 eσ_13 dX12_day_81 (fun H locs hw => ?_)
          refine lv_aload_n hx hb dX12_day_82 rfl (lv_at hl 0 rfl) ?_
          refine gf_12_1 C hw tM_0 kw_1019 dX12_day_83 ?_
          refine lv_iconst (v := 2) hx hb dX12_day_86 (by decide) ?_
          refine lv_dup2_11 hx hb dX12_day_87 rfl rfl ?_
          refine q_ialdk C hw tM_1 (k := 2) (by rfl) (by decide) (by decide) dX12_day_88 ?_
          refine lv_iconst (v := 1) hx hb dX12_day_89 (by decide) ?_
          refine lv_iadd hx hb dX12_day_90 ?_
          obtain ⟨σ_15, eσ_15, h⟩ := lt_at h
          refine q_iastk C hw tM_1 (k := 2) (by rfl) (by decide) (by decide) eσ_15 dX12_day_91 (fun H locs hw => ?_)
          refine lv_aload_n hx hb dX12_day_92 rfl (lv_at hl 0 rfl) ?_
          refine gf_12_1 C hw tM_0 kw_1019 dX12_day_93 ?_
          refine lv_iconst (v := 2) hx hb dX12_day_96 (by decide) ?_
          refine q_ialdk C hw tM_1 (k := 2) (by rfl) (by decide) (by decide) dX12_day_97 ?_
          obtain ⟨rfl, rfl⟩ := ret_at h
          exact q_iret C hw dX12_day_98
        · replace h := it_at h c_10
          refine lv_bipush (v := (-4)) hx hb dX12_day_47 (by decide) ?_
          obtain ⟨rfl, rfl⟩ := ret_at h
          exact q_iret C hw dX12_day_49
      · replace h := it_at h c_9
        refine lv_bipush (v := (-2)) hx hb dX12_day_33 (by decide) ?_
        obtain ⟨rfl, rfl⟩ := ret_at h
        exact q_iret C hw dX12_day_35
    · replace h := it_at h c_5
      refine lv_iconst (v := (-1)) hx hb dX12_day_21 (by decide) ?_
      obtain ⟨rfl, rfl⟩ := ret_at h
      exact q_iret C hw dX12_day_22
  · replace h := it_at h c_1
    refine lv_aload_n hx hb dX12_day_5 rfl (lv_at hl 0 rfl) ?_
    refine gf_12_1 C hw tM_0 kw_1019 dX12_day_6 ?_
    refine lv_iconst (v := 2) hx hb dX12_day_9 (by decide) ?_
    refine lv_iconst (v := 0) hx hb dX12_day_10 (by decide) ?_
    obtain ⟨σ_16, eσ_16, h⟩ := lt_at h
    refine q_iastk C hw tM_1 (k := 2) (by rfl) (by decide) (by decide) eσ_16 dX12_day_11 (fun H locs hw => ?_)
    refine lv_iconst (v := 0) hx hb dX12_day_12 (by decide) ?_
    obtain ⟨rfl, rfl⟩ := ret_at h
    exact q_iret C hw dX12_day_13
def f_X12_dress_117 (k68 : Int32 → Int32 → Int64 → Int32 → Int32 → Mem → Option (Int32 × Mem)) (x1 : Int32) (x2 : Int32) (x5 : Int32) (x6 : Int32) (s0 : Int64) (σ : Mem) : Option (Int32 × Mem) :=
  lt (x6 + (1 : Int32)) fun x6_26 =>
  k68 x1 x2 s0 x5 x6_26 σ
def f_X12_dress_102 (k68 : Int32 → Int32 → Int64 → Int32 → Int32 → Mem → Option (Int32 × Mem)) (x1 : Int32) (x2 : Int32) (x3 : Int64) (x6 : Int32) (x7 : Int64) (s0 : Int32) (σ : Mem) : Option (Int32 × Mem) :=
  if (lg_cmp x7 x3) ≤ 0 then
    (f_X12_dress_117 k68 x1 x2 s0 x6 x3 σ)
  else
    f_X12_dress_117 k68 x1 x2 s0 x6 x7 σ
def f_X12_dress_68 (k68 : Int32 → Int32 → Int64 → Int32 → Int32 → Mem → Option (Int32 × Mem)) (x1 : Int32) (x2 : Int32) (x3 : Int64) (x5 : Int32) (x6 : Int32) (σ : Mem) : Option (Int32 × Mem) :=
  if x1 ≤ x6 then
    (some (x5, σ))
  else
    bd (f_X12_meanBy (3 : Int32) (0 : Int32) (-1 : Int32) x1 x2 x6 (0 : Int32) σ) fun r_21 σ_22 =>
    if (lg_cmp r_21 x3) ≤ 0 then
      (f_X12_dress_102 k68 x1 x2 x3 x6 r_21 x5 σ_22)
    else
      f_X12_dress_102 k68 x1 x2 x3 x6 r_21 x6 σ_22
def f_X12_dress (p1 : Int32) (p2 : Int32) (σ : Mem) : Option (Int32 × Mem) :=
  bd (f_X12_isWind p2 σ) fun r_1 σ_2 =>
  if r_1 = 0 then
    (some ((-1 : Int32), σ_2))
  else
    bd (f_X12_in p1 (1 : Int32) (4 : Int32) σ_2) fun r_5 σ_6 =>
    if r_5 = 0 then
      (some ((-2 : Int32), σ_6))
    else
      bd (f_X12_isLed σ_6) fun r_9 σ_10 =>
      if r_9 = 0 then
        (some ((-3 : Int32), σ_10))
      else
        if (gI σ_10 1 10) = (1 : Int32) then
          (some ((-5 : Int32), σ_10))
        else
          bv (f_X12_begins σ_10) fun σ_15 =>
          bd (f_X12_meanBy (3 : Int32) (0 : Int32) (-1 : Int32) p1 p2 (-1 : Int32) (0 : Int32) σ_15) fun r_17 σ_18 =>
          fx6 (f_X12_dress_68) FU p1 p2 r_17 (-5 : Int32) (0 : Int32) σ_18
set_option maxHeartbeats 4000000 in
set_option maxRecDepth 100000 in
theorem w_X12_dress_117 {p : Program} {l : Launch} {e : Env} {s : State} {m : MethodId} {args : Array Value} {below : List Frame} {meth : Method} {c : Code} {E : EV} {rr : Int32} {τ : Mem} (C : Cx E p s m args meth c cX12_dress 9 (some .int) RX12) (k68 : Int32 → Int32 → Int64 → Int32 → Int32 → Mem → Option (Int32 × Mem)) (hk68 : ∀ (x1 : Int32) (x2 : Int32) (x3 : Int64) (x5 : Int32) (x6 : Int32) (σ : Mem) (H : Heap) (locs : List Loc) (ls : Array Slot) (hw : Wd TM E σ s H locs) (hl : lv_has ls 9 [(0, .ref (E.2.1 (0))), (1, .int x1), (2, .int x2), (3, .long x3), (5, .int x5), (6, .int x6)]) (h : k68 x1 x2 x3 x5 x6 σ = some (rr, τ)), W p l e { frames := 250, cells := 0, slots := 0, locals := 9415 } s m args below meth c H locs 0 0 (MQ below (QI TM E rr τ) args s 0 0 E.2.2.1) (F0 m 68 ls [])) : ∀ (x1 : Int32) (x2 : Int32) (x5 : Int32) (x6 : Int32) (s0 : Int64) (σ : Mem) (H : Heap) (locs : List Loc) (ls : Array Slot) (hw : Wd TM E σ s H locs) (hl : lv_has ls 9 [(0, .ref (E.2.1 (0))), (1, .int x1), (2, .int x2), (5, .int x5), (6, .int x6)]) (h : f_X12_dress_117 k68 x1 x2 x5 x6 s0 σ = some (rr, τ)), W p l e { frames := 250, cells := 0, slots := 0, locals := 9415 } s m args below meth c H locs 0 0 (MQ below (QI TM E rr τ) args s 0 0 E.2.2.1) (F0 m 117 ls [.long s0]) := by
  obtain ⟨hx, hb, hml, hown, hts, hK, hSt, hlk, hr⟩ := id C
  intro x1 x2 x5 x6 s0 σ H locs ls hw hl h
  unfold f_X12_dress_117 at h
  refine lv_lstore_n (lv' := [(3, .long s0), (0, .ref (E.2.1 (0))), (1, .int x1), (2, .int x2), (5, .int x5), (6, .int x6)]) hx hb dX12_dress_117 rfl hl (by decide) rfl (fun ls hl => ?_)
  obtain ⟨x6_26, ex6_26, h⟩ := lt_at h
  refine lv_iinc (v := x6_26) (lv' := [(6, .int x6_26), (3, .long s0), (0, .ref (E.2.1 (0))), (1, .int x1), (2, .int x2), (5, .int x5)]) hx hb dX12_dress_118 hl (k := 5) rfl (by rw [ex6_26]; rfl) (by decide) rfl (fun ls hl => ?_)
  refine lv_goto (tgt := 68) hx hb dX12_dress_121 (by decide) ?_
  exact hk68 _ _ _ _ _ _ _ _ _ hw (lv_sub hl [2, 3, 4, 1, 5, 0] rfl) h
set_option maxHeartbeats 4000000 in
set_option maxRecDepth 100000 in
theorem w_X12_dress_102 {p : Program} {l : Launch} {e : Env} {s : State} {m : MethodId} {args : Array Value} {below : List Frame} {meth : Method} {c : Code} {E : EV} {rr : Int32} {τ : Mem} (C : Cx E p s m args meth c cX12_dress 9 (some .int) RX12) (k68 : Int32 → Int32 → Int64 → Int32 → Int32 → Mem → Option (Int32 × Mem)) (hk68 : ∀ (x1 : Int32) (x2 : Int32) (x3 : Int64) (x5 : Int32) (x6 : Int32) (σ : Mem) (H : Heap) (locs : List Loc) (ls : Array Slot) (hw : Wd TM E σ s H locs) (hl : lv_has ls 9 [(0, .ref (E.2.1 (0))), (1, .int x1), (2, .int x2), (3, .long x3), (5, .int x5), (6, .int x6)]) (h : k68 x1 x2 x3 x5 x6 σ = some (rr, τ)), W p l e { frames := 250, cells := 0, slots := 0, locals := 9415 } s m args below meth c H locs 0 0 (MQ below (QI TM E rr τ) args s 0 0 E.2.2.1) (F0 m 68 ls [])) : ∀ (x1 : Int32) (x2 : Int32) (x3 : Int64) (x6 : Int32) (x7 : Int64) (s0 : Int32) (σ : Mem) (H : Heap) (locs : List Loc) (ls : Array Slot) (hw : Wd TM E σ s H locs) (hl : lv_has ls 9 [(0, .ref (E.2.1 (0))), (1, .int x1), (2, .int x2), (3, .long x3), (6, .int x6), (7, .long x7)]) (h : f_X12_dress_102 k68 x1 x2 x3 x6 x7 s0 σ = some (rr, τ)), W p l e { frames := 250, cells := 0, slots := 0, locals := 9415 } s m args below meth c H locs 0 0 (MQ below (QI TM E rr τ) args s 0 0 E.2.2.1) (F0 m 102 ls [.int s0]) := by
  obtain ⟨hx, hb, hml, hown, hts, hK, hSt, hlk, hr⟩ := id C
  intro x1 x2 x3 x6 x7 s0 σ H locs ls hw hl h
  unfold f_X12_dress_102 at h
  refine lv_istore (lv' := [(5, .int s0), (0, .ref (E.2.1 (0))), (1, .int x1), (2, .int x2), (3, .long x3), (6, .int x6), (7, .long x7)]) hx hb dX12_dress_102 hl (by decide) rfl (fun ls hl => ?_)
  refine lv_lload hx hb dX12_dress_104 (lv_at hl 6 rfl) ?_
  refine lv_lload_n hx hb dX12_dress_106 rfl (lv_at hl 4 rfl) ?_
  refine W.lcmp hx hb dX12_dress_107 ?_
  refine lv_if_le (tgt := 116) hx hb dX12_dress_108 (by decide) (fun c_25 => ?_) (fun c_25 => ?_)
  · replace h := it_at h c_25
    refine lv_lload_n hx hb dX12_dress_116 rfl (lv_at hl 4 rfl) ?_
    exact w_X12_dress_117 C _ hk68 _ _ _ _ _ _ _ _ _ hw (lv_sub hl [1, 2, 3, 0, 5] rfl) h
  · replace h := ie_at h c_25
    refine lv_lload hx hb dX12_dress_111 (lv_at hl 6 rfl) ?_
    refine lv_goto (tgt := 117) hx hb dX12_dress_113 (by decide) ?_
    exact w_X12_dress_117 C _ hk68 _ _ _ _ _ _ _ _ _ hw (lv_sub hl [1, 2, 3, 0, 5] rfl) h
set_option maxHeartbeats 4000000 in
set_option maxRecDepth 100000 in
theorem w_X12_dress_68 {p : Program} {l : Launch} {e : Env} {s : State} {m : MethodId} {args : Array Value} {below : List Frame} {meth : Method} {c : Code} {E : EV} {rr : Int32} {τ : Mem} (C : Cx E p s m args meth c cX12_dress 9 (some .int) RX12) : ∀ (n : Nat) (x1 : Int32) (x2 : Int32) (x3 : Int64) (x5 : Int32) (x6 : Int32) (σ : Mem) (H : Heap) (locs : List Loc) (ls : Array Slot) (hw : Wd TM E σ s H locs) (hl : lv_has ls 9 [(0, .ref (E.2.1 (0))), (1, .int x1), (2, .int x2), (3, .long x3), (5, .int x5), (6, .int x6)]) (h : fx6 (f_X12_dress_68) n x1 x2 x3 x5 x6 σ = some (rr, τ)), W p l e { frames := 250, cells := 0, slots := 0, locals := 9415 } s m args below meth c H locs 0 0 (MQ below (QI TM E rr τ) args s 0 0 E.2.2.1) (F0 m 68 ls []) := by
  obtain ⟨hx, hb, hml, hown, hts, hK, hSt, hlk, hr⟩ := id C
  intro n
  induction n with
  | zero =>
    intro x1 x2 x3 x5 x6 σ H locs ls hw hl h
    have h : none = some (rr, τ) := h
    cases h
  | succ n hk68 =>
    intro x1 x2 x3 x5 x6 σ H locs ls hw hl h
    replace h : f_X12_dress_68 (fx6 (f_X12_dress_68) n) x1 x2 x3 x5 x6 σ = some (rr, τ) := h
    unfold f_X12_dress_68 at h
    refine lv_iload hx hb dX12_dress_68 (lv_at hl 5 rfl) ?_
    refine lv_iload_n hx hb dX12_dress_70 rfl (lv_at hl 1 rfl) ?_
    refine lv_icmp_ge (tgt := 124) hx hb dX12_dress_71 (by decide) (fun c_20 => ?_) (fun c_20 => ?_)
    · replace h := it_at h c_20
      refine lv_iload hx hb dX12_dress_124 (lv_at hl 4 rfl) ?_
      obtain ⟨rfl, rfl⟩ := ret_at h
      exact q_iret C hw dX12_dress_126
    · replace h := ie_at h c_20
      refine lv_aload_n hx hb dX12_dress_74 rfl (lv_at hl 0 rfl) ?_
      refine lv_iconst (v := 3) hx hb dX12_dress_75 (by decide) ?_
      refine lv_iconst (v := 0) hx hb dX12_dress_76 (by decide) ?_
      refine lv_iconst (v := (-1)) hx hb dX12_dress_77 (by decide) ?_
      refine lv_iload_n hx hb dX12_dress_78 rfl (lv_at hl 1 rfl) ?_
      refine lv_iload_n hx hb dX12_dress_79 rfl (lv_at hl 2 rfl) ?_
      refine lv_iload hx hb dX12_dress_80 (lv_at hl 5 rfl) ?_
      refine lv_iconst (v := 0) hx hb dX12_dress_82 (by decide) ?_
      obtain ⟨r_21, σ_22, h_23, h⟩ := bd_at h
      refine q_afterL hw (q_runV C hw hl.1 (As := [.int (3 : Int32), .int (0 : Int32), .int (-1 : Int32), .int x1, .int x2, .int x6, .int (0 : Int32)]) (rest := []) (m_X12_meanBy l E (3 : Int32) (0 : Int32) (-1 : Int32) x1 x2 x6 (0 : Int32) σ r_21 σ_22 h_23) yq_X12_meanBy tM_0 rfl rfl kw_1313 ⟨Nat.le_of_ble_eq_true rfl, Nat.le_of_ble_eq_true rfl⟩ rfl (Nat.le_of_ble_eq_true rfl) ⟨Nat.zero_le _, Nat.zero_le _⟩ dX12_dress_83) (fun H locs hw => ?_)
      refine lv_lstore (lv' := [(7, .long r_21), (0, .ref (E.2.1 (0))), (1, .int x1), (2, .int x2), (3, .long x3), (5, .int x5), (6, .int x6)]) hx hb dX12_dress_86 hl (by decide) rfl (fun ls hl => ?_)
      refine lv_lload hx hb dX12_dress_88 (lv_at hl 0 rfl) ?_
      refine lv_lload_n hx hb dX12_dress_90 rfl (lv_at hl 4 rfl) ?_
      refine W.lcmp hx hb dX12_dress_91 ?_
      refine lv_if_le (tgt := 100) hx hb dX12_dress_92 (by decide) (fun c_24 => ?_) (fun c_24 => ?_)
      · replace h := it_at h c_24
        refine lv_iload hx hb dX12_dress_100 (lv_at hl 5 rfl) ?_
        exact w_X12_dress_102 C _ hk68 _ _ _ _ _ _ _ _ _ _ hw (lv_sub hl [1, 2, 3, 4, 6, 0] rfl) h
      · replace h := ie_at h c_24
        refine lv_iload hx hb dX12_dress_95 (lv_at hl 6 rfl) ?_
        refine lv_goto (tgt := 102) hx hb dX12_dress_97 (by decide) ?_
        exact w_X12_dress_102 C _ hk68 _ _ _ _ _ _ _ _ _ _ hw (lv_sub hl [1, 2, 3, 4, 6, 0] rfl) h
set_option maxHeartbeats 4000000 in
set_option maxRecDepth 100000 in
theorem m_X12_dress (l : Launch) (E : EV) (p1 : Int32) (p2 : Int32) (σ : Mem) (rr : Int32) (τ : Mem) (h : f_X12_dress p1 p2 σ = some (rr, τ)) : MI TM l E yX12_dress cX12_dress 9 (some .int) 250 9415 [.ref (E.2.1 (0)), .int p1, .int p2] σ rr τ := by
  refine mt_start RX12 (by decide +kernel) rfl (Nat.le_of_ble_eq_true rfl) (fun p e s m args below meth c ls C hw hl => ?_)
  replace hl : lv_has ls 9 [(0, .ref (E.2.1 (0))), (1, .int p1), (2, .int p2)] := hl
  obtain ⟨hx, hb, hml, hown, hts, hK, hSt, hlk, hr⟩ := id C
  unfold f_X12_dress at h
  refine lv_iload_n hx hb dX12_dress_0 rfl (lv_at hl 2 rfl) ?_
  obtain ⟨r_1, σ_2, h_3, h⟩ := bd_at h
  refine q_afterI hw (q_runS C hw hl.1 (As := [.int p2]) (rest := []) (m_X12_isWind l E p2 σ r_1 σ_2 h_3) yq_X12_isWind kw_1217 ⟨Nat.le_of_ble_eq_true rfl, Nat.le_of_ble_eq_true rfl⟩ rfl (Nat.le_of_ble_eq_true rfl) ⟨Nat.zero_le _, Nat.zero_le _⟩ dX12_dress_1) (fun H locs hw => ?_)
  refine lv_if_ne (tgt := 9) hx hb dX12_dress_4 (by decide) (fun c_4 => ?_) (fun c_4 => ?_)
  · replace h := ie_at h c_4
    refine lv_iload_n hx hb dX12_dress_9 rfl (lv_at hl 1 rfl) ?_
    refine lv_iconst (v := 1) hx hb dX12_dress_10 (by decide) ?_
    refine lv_iconst (v := 4) hx hb dX12_dress_11 (by decide) ?_
    obtain ⟨r_5, σ_6, h_7, h⟩ := bd_at h
    refine q_afterI hw (q_runS C hw hl.1 (As := [.int p1, .int (1 : Int32), .int (4 : Int32)]) (rest := []) (m_X12_in l E p1 (1 : Int32) (4 : Int32) σ_2 r_5 σ_6 h_7) yq_X12_in kw_1142 ⟨Nat.le_of_ble_eq_true rfl, Nat.le_of_ble_eq_true rfl⟩ rfl (Nat.le_of_ble_eq_true rfl) ⟨Nat.zero_le _, Nat.zero_le _⟩ dX12_dress_12) (fun H locs hw => ?_)
    refine lv_if_ne (tgt := 21) hx hb dX12_dress_15 (by decide) (fun c_8 => ?_) (fun c_8 => ?_)
    · replace h := ie_at h c_8
      refine lv_aload_n hx hb dX12_dress_21 rfl (lv_at hl 0 rfl) ?_
      obtain ⟨r_9, σ_10, h_11, h⟩ := bd_at h
      refine q_afterI hw (q_runV C hw hl.1 (As := []) (rest := []) (m_X12_isLed l E  σ_6 r_9 σ_10 h_11) yq_X12_isLed tM_0 rfl rfl kw_1251 ⟨Nat.le_of_ble_eq_true rfl, Nat.le_of_ble_eq_true rfl⟩ rfl (Nat.le_of_ble_eq_true rfl) ⟨Nat.zero_le _, Nat.zero_le _⟩ dX12_dress_22) (fun H locs hw => ?_)
      refine lv_if_ne (tgt := 31) hx hb dX12_dress_25 (by decide) (fun c_12 => ?_) (fun c_12 => ?_)
      · replace h := ie_at h c_12
        refine lv_aload_n hx hb dX12_dress_31 rfl (lv_at hl 0 rfl) ?_
        refine gf_12_1 C hw tM_0 kw_1019 dX12_dress_32 ?_
        refine lv_bipush (v := 10) hx hb dX12_dress_35 (by decide) ?_
        refine q_ialdk C hw tM_1 (k := 10) (by rfl) (by decide) (by decide) dX12_dress_37 ?_
        refine lv_iconst (v := 1) hx hb dX12_dress_38 (by decide) ?_
        refine lv_icmp_ne (tgt := 45) hx hb dX12_dress_39 (by decide) (fun c_13 => ?_) (fun c_13 => ?_)
        · replace h := ie_at h c_13
          refine lv_aload_n hx hb dX12_dress_45 rfl (lv_at hl 0 rfl) ?_
          obtain ⟨σ_15, h_16, h⟩ := bv_at h
          refine q_afterV hw (q_runV C hw hl.1 (As := []) (rest := []) (m_X12_begins l E  σ_10 σ_15 h_16) yq_X12_begins tM_0 rfl rfl kw_1275 ⟨Nat.le_of_ble_eq_true rfl, Nat.le_of_ble_eq_true rfl⟩ rfl (Nat.le_of_ble_eq_true rfl) ⟨Nat.zero_le _, Nat.zero_le _⟩ dX12_dress_46) (fun H locs hw => ?_)
          refine lv_aload_n hx hb dX12_dress_49 rfl (lv_at hl 0 rfl) ?_
          refine lv_iconst (v := 3) hx hb dX12_dress_50 (by decide) ?_
          refine lv_iconst (v := 0) hx hb dX12_dress_51 (by decide) ?_
          refine lv_iconst (v := (-1)) hx hb dX12_dress_52 (by decide) ?_
          refine lv_iload_n hx hb dX12_dress_53 rfl (lv_at hl 1 rfl) ?_
          refine lv_iload_n hx hb dX12_dress_54 rfl (lv_at hl 2 rfl) ?_
          refine lv_iconst (v := (-1)) hx hb dX12_dress_55 (by decide) ?_
          refine lv_iconst (v := 0) hx hb dX12_dress_56 (by decide) ?_
          obtain ⟨r_17, σ_18, h_19, h⟩ := bd_at h
          refine q_afterL hw (q_runV C hw hl.1 (As := [.int (3 : Int32), .int (0 : Int32), .int (-1 : Int32), .int p1, .int p2, .int (-1 : Int32), .int (0 : Int32)]) (rest := []) (m_X12_meanBy l E (3 : Int32) (0 : Int32) (-1 : Int32) p1 p2 (-1 : Int32) (0 : Int32) σ_15 r_17 σ_18 h_19) yq_X12_meanBy tM_0 rfl rfl kw_1313 ⟨Nat.le_of_ble_eq_true rfl, Nat.le_of_ble_eq_true rfl⟩ rfl (Nat.le_of_ble_eq_true rfl) ⟨Nat.zero_le _, Nat.zero_le _⟩ dX12_dress_57) (fun H locs hw => ?_)
          refine lv_lstore_n (lv' := [(3, .long r_17), (0, .ref (E.2.1 (0))), (1, .int p1), (2, .int p2)]) hx hb dX12_dress_60 rfl hl (by decide) rfl (fun ls hl => ?_)
          refine lv_bipush (v := (-5)) hx hb dX12_dress_61 (by decide) ?_
          refine lv_istore (lv' := [(5, .int (-5 : Int32)), (3, .long r_17), (0, .ref (E.2.1 (0))), (1, .int p1), (2, .int p2)]) hx hb dX12_dress_63 hl (by decide) rfl (fun ls hl => ?_)
          refine lv_iconst (v := 0) hx hb dX12_dress_65 (by decide) ?_
          refine lv_istore (lv' := [(6, .int (0 : Int32)), (5, .int (-5 : Int32)), (3, .long r_17), (0, .ref (E.2.1 (0))), (1, .int p1), (2, .int p2)]) hx hb dX12_dress_66 hl (by decide) rfl (fun ls hl => ?_)
          exact w_X12_dress_68 C _ _ _ _ _ _ _ _ _ _ hw (lv_sub hl [3, 4, 5, 2, 1, 0] rfl) h
        · replace h := it_at h c_13
          refine lv_bipush (v := (-5)) hx hb dX12_dress_42 (by decide) ?_
          obtain ⟨rfl, rfl⟩ := ret_at h
          exact q_iret C hw dX12_dress_44
      · replace h := it_at h c_12
        refine lv_bipush (v := (-3)) hx hb dX12_dress_28 (by decide) ?_
        obtain ⟨rfl, rfl⟩ := ret_at h
        exact q_iret C hw dX12_dress_30
    · replace h := it_at h c_8
      refine lv_bipush (v := (-2)) hx hb dX12_dress_18 (by decide) ?_
      obtain ⟨rfl, rfl⟩ := ret_at h
      exact q_iret C hw dX12_dress_20
  · replace h := it_at h c_4
    refine lv_iconst (v := (-1)) hx hb dX12_dress_7 (by decide) ?_
    obtain ⟨rfl, rfl⟩ := ret_at h
    exact q_iret C hw dX12_dress_8
def f_X12_go_114 (s1 : Int32) (s2 : Int32) (σ : Mem) : Option (Int32 × Mem) :=
  gd (ib s1 1055) <|
  lt (sI σ 1 s1.toNatClampNeg s2) fun σ_20 =>
  lt (sI σ_20 1 7 (gI σ_20 0 14)) fun σ_22 =>
  lt (sI σ_22 1 8 (gI σ_22 0 15)) fun σ_23 =>
  if (gI σ_23 0 11) = 0 then
    (lt (sI σ_23 1 9 ((gI σ_23 1 9) + (gI σ_23 0 13))) fun σ_25 =>
    some (gI σ_25 0 13, σ_25))
  else
    lt (sI σ_23 1 9 ((gI σ_23 1 9) + (0 : Int32))) fun σ_26 =>
    some (gI σ_26 0 13, σ_26)
def f_X12_go (p1 : Int32) (p2 : Int32) (σ : Mem) : Option (Int32 × Mem) :=
  bd (f_X12_isWind p1 σ) fun r_1 σ_2 =>
  if r_1 = 0 then
    (some ((-11 : Int32), σ_2))
  else
    bd (f_X12_in p2 (0 : Int32) (7 : Int32) σ_2) fun r_5 σ_6 =>
    if r_5 = 0 then
      (some ((-12 : Int32), σ_6))
    else
      bd (f_X12_isLed σ_6) fun r_9 σ_10 =>
      if r_9 = 0 then
        (some ((-13 : Int32), σ_10))
      else
        if (gI σ_10 1 6) = (999 : Int32) then
          (some ((-13 : Int32), σ_10))
        else
          lt (sI σ_10 1 6 ((gI σ_10 1 6) + (1 : Int32))) fun σ_14 =>
          if (gI σ_14 1 10) = (1 : Int32) then
            (some ((-1 : Int32), σ_14))
          else
            bv (f_X12_hourOf (gI σ_14 1 5) p1 p2 (gI σ_14 1 7) (gI σ_14 1 8) σ_14) fun σ_17 =>
            if (gI σ_17 0 11) = 0 then
              (f_X12_go_114 (10 : Int32) (0 : Int32) σ_17)
            else
              f_X12_go_114 (10 : Int32) (1 : Int32) σ_17
set_option maxHeartbeats 4000000 in
set_option maxRecDepth 100000 in
theorem w_X12_go_114 {p : Program} {l : Launch} {e : Env} {s : State} {m : MethodId} {args : Array Value} {below : List Frame} {meth : Method} {c : Code} {E : EV} {rr : Int32} {τ : Mem} (C : Cx E p s m args meth c cX12_go 3 (some .int) RX12) : ∀ (s1 : Int32) (s2 : Int32) (σ : Mem) (H : Heap) (locs : List Loc) (ls : Array Slot) (hw : Wd TM E σ s H locs) (hl : lv_has ls 3 [(0, .ref (E.2.1 (0)))]) (h : f_X12_go_114 s1 s2 σ = some (rr, τ)), W p l e { frames := 3, cells := 0, slots := 0, locals := 81 } s m args below meth c H locs 0 0 (MQ below (QI TM E rr τ) args s 0 0 E.2.2.1) (F0 m 114 ls [.int s2, .int s1, .ref (E.2.1 (1))]) := by
  obtain ⟨hx, hb, hml, hown, hts, hK, hSt, hlk, hr⟩ := id C
  intro s1 s2 σ H locs ls hw hl h
  unfold f_X12_go_114 at h
  obtain ⟨g_21, h⟩ := gd_at h
  obtain ⟨σ_20, eσ_20, h⟩ := lt_at h
  refine q_iast C hw tM_1 g_21 eσ_20 dX12_go_114 (fun H locs hw => ?_)
  refine lv_aload_n hx hb dX12_go_115 rfl (lv_at hl 0 rfl) ?_
  refine gf_12_1 C hw tM_0 kw_1019 dX12_go_116 ?_
  refine lv_bipush (v := 7) hx hb dX12_go_119 (by decide) ?_
  refine lv_aload_n hx hb dX12_go_121 rfl (lv_at hl 0 rfl) ?_
  refine gf_12_14 C hw tM_0 kw_1032 dX12_go_122 ?_
  obtain ⟨σ_22, eσ_22, h⟩ := lt_at h
  refine q_iastk C hw tM_1 (k := 7) (by rfl) (by decide) (by decide) eσ_22 dX12_go_125 (fun H locs hw => ?_)
  refine lv_aload_n hx hb dX12_go_126 rfl (lv_at hl 0 rfl) ?_
  refine gf_12_1 C hw tM_0 kw_1019 dX12_go_127 ?_
  refine lv_bipush (v := 8) hx hb dX12_go_130 (by decide) ?_
  refine lv_aload_n hx hb dX12_go_132 rfl (lv_at hl 0 rfl) ?_
  refine gf_12_15 C hw tM_0 kw_1033 dX12_go_133 ?_
  obtain ⟨σ_23, eσ_23, h⟩ := lt_at h
  refine q_iastk C hw tM_1 (k := 8) (by rfl) (by decide) (by decide) eσ_23 dX12_go_136 (fun H locs hw => ?_)
  refine lv_aload_n hx hb dX12_go_137 rfl (lv_at hl 0 rfl) ?_
  refine gf_12_1 C hw tM_0 kw_1019 dX12_go_138 ?_
  refine lv_bipush (v := 9) hx hb dX12_go_141 (by decide) ?_
  refine lv_dup2_11 hx hb dX12_go_143 rfl rfl ?_
  refine q_ialdk C hw tM_1 (k := 9) (by rfl) (by decide) (by decide) dX12_go_144 ?_
  refine lv_aload_n hx hb dX12_go_145 rfl (lv_at hl 0 rfl) ?_
  refine gf_12_11 C hw tM_0 kw_1029 dX12_go_146 ?_
  refine lv_if_eq (tgt := 156) hx hb dX12_go_149 (by decide) (fun c_24 => ?_) (fun c_24 => ?_)
  · replace h := it_at h c_24
    refine lv_aload_n hx hb dX12_go_156 rfl (lv_at hl 0 rfl) ?_
    refine gf_12_13 C hw tM_0 kw_1031 dX12_go_157 ?_
    refine lv_iadd hx hb dX12_go_160 ?_
    obtain ⟨σ_25, eσ_25, h⟩ := lt_at h
    refine q_iastk C hw tM_1 (k := 9) (by rfl) (by decide) (by decide) eσ_25 dX12_go_161 (fun H locs hw => ?_)
    refine lv_aload_n hx hb dX12_go_162 rfl (lv_at hl 0 rfl) ?_
    refine gf_12_13 C hw tM_0 kw_1031 dX12_go_163 ?_
    obtain ⟨rfl, rfl⟩ := ret_at h
    exact q_iret C hw dX12_go_166
  · replace h := ie_at h c_24
    refine lv_iconst (v := 0) hx hb dX12_go_152 (by decide) ?_
    refine lv_goto (tgt := 160) hx hb dX12_go_153 (by decide) ?_
    refine lv_iadd hx hb dX12_go_160 ?_
    obtain ⟨σ_26, eσ_26, h⟩ := lt_at h
    refine q_iastk C hw tM_1 (k := 9) (by rfl) (by decide) (by decide) eσ_26 dX12_go_161 (fun H locs hw => ?_)
    refine lv_aload_n hx hb dX12_go_162 rfl (lv_at hl 0 rfl) ?_
    refine gf_12_13 C hw tM_0 kw_1031 dX12_go_163 ?_
    obtain ⟨rfl, rfl⟩ := ret_at h
    exact q_iret C hw dX12_go_166
set_option maxHeartbeats 4000000 in
set_option maxRecDepth 100000 in
theorem m_X12_go (l : Launch) (E : EV) (p1 : Int32) (p2 : Int32) (σ : Mem) (rr : Int32) (τ : Mem) (h : f_X12_go p1 p2 σ = some (rr, τ)) : MI TM l E yX12_go cX12_go 3 (some .int) 3 81 [.ref (E.2.1 (0)), .int p1, .int p2] σ rr τ := by
  refine mt_start RX12 (by decide +kernel) rfl (Nat.le_of_ble_eq_true rfl) (fun p e s m args below meth c ls C hw hl => ?_)
  replace hl : lv_has ls 3 [(0, .ref (E.2.1 (0))), (1, .int p1), (2, .int p2)] := hl
  obtain ⟨hx, hb, hml, hown, hts, hK, hSt, hlk, hr⟩ := id C
  unfold f_X12_go at h
  refine lv_iload_n hx hb dX12_go_0 rfl (lv_at hl 1 rfl) ?_
  obtain ⟨r_1, σ_2, h_3, h⟩ := bd_at h
  refine q_afterI hw (q_runS C hw hl.1 (As := [.int p1]) (rest := []) (m_X12_isWind l E p1 σ r_1 σ_2 h_3) yq_X12_isWind kw_1217 ⟨Nat.le_of_ble_eq_true rfl, Nat.le_of_ble_eq_true rfl⟩ rfl (Nat.le_of_ble_eq_true rfl) ⟨Nat.zero_le _, Nat.zero_le _⟩ dX12_go_1) (fun H locs hw => ?_)
  refine lv_if_ne (tgt := 10) hx hb dX12_go_4 (by decide) (fun c_4 => ?_) (fun c_4 => ?_)
  · replace h := ie_at h c_4
    refine lv_iload_n hx hb dX12_go_10 rfl (lv_at hl 2 rfl) ?_
    refine lv_iconst (v := 0) hx hb dX12_go_11 (by decide) ?_
    refine lv_bipush (v := 7) hx hb dX12_go_12 (by decide) ?_
    obtain ⟨r_5, σ_6, h_7, h⟩ := bd_at h
    refine q_afterI hw (q_runS C hw hl.1 (As := [.int p2, .int (0 : Int32), .int (7 : Int32)]) (rest := []) (m_X12_in l E p2 (0 : Int32) (7 : Int32) σ_2 r_5 σ_6 h_7) yq_X12_in kw_1142 ⟨Nat.le_of_ble_eq_true rfl, Nat.le_of_ble_eq_true rfl⟩ rfl (Nat.le_of_ble_eq_true rfl) ⟨Nat.zero_le _, Nat.zero_le _⟩ dX12_go_14) (fun H locs hw => ?_)
    refine lv_if_ne (tgt := 23) hx hb dX12_go_17 (by decide) (fun c_8 => ?_) (fun c_8 => ?_)
    · replace h := ie_at h c_8
      refine lv_aload_n hx hb dX12_go_23 rfl (lv_at hl 0 rfl) ?_
      obtain ⟨r_9, σ_10, h_11, h⟩ := bd_at h
      refine q_afterI hw (q_runV C hw hl.1 (As := []) (rest := []) (m_X12_isLed l E  σ_6 r_9 σ_10 h_11) yq_X12_isLed tM_0 rfl rfl kw_1251 ⟨Nat.le_of_ble_eq_true rfl, Nat.le_of_ble_eq_true rfl⟩ rfl (Nat.le_of_ble_eq_true rfl) ⟨Nat.zero_le _, Nat.zero_le _⟩ dX12_go_24) (fun H locs hw => ?_)
      refine lv_if_eq (tgt := 43) hx hb dX12_go_27 (by decide) (fun c_12 => ?_) (fun c_12 => ?_)
      · replace h := it_at h c_12
        refine lv_bipush (v := (-13)) hx hb dX12_go_43 (by decide) ?_
        obtain ⟨rfl, rfl⟩ := ret_at h
        exact q_iret C hw dX12_go_45
      · replace h := ie_at h c_12
        refine lv_aload_n hx hb dX12_go_30 rfl (lv_at hl 0 rfl) ?_
        refine gf_12_1 C hw tM_0 kw_1019 dX12_go_31 ?_
        refine lv_bipush (v := 6) hx hb dX12_go_34 (by decide) ?_
        refine q_ialdk C hw tM_1 (k := 6) (by rfl) (by decide) (by decide) dX12_go_36 ?_
        refine lv_sipush (v := 999) hx hb dX12_go_37 (by decide) ?_
        refine lv_icmp_ne (tgt := 46) hx hb dX12_go_40 (by decide) (fun c_13 => ?_) (fun c_13 => ?_)
        · replace h := ie_at h c_13
          refine lv_aload_n hx hb dX12_go_46 rfl (lv_at hl 0 rfl) ?_
          refine gf_12_1 C hw tM_0 kw_1019 dX12_go_47 ?_
          refine lv_bipush (v := 6) hx hb dX12_go_50 (by decide) ?_
          refine lv_dup2_11 hx hb dX12_go_52 rfl rfl ?_
          refine q_ialdk C hw tM_1 (k := 6) (by rfl) (by decide) (by decide) dX12_go_53 ?_
          refine lv_iconst (v := 1) hx hb dX12_go_54 (by decide) ?_
          refine lv_iadd hx hb dX12_go_55 ?_
          obtain ⟨σ_14, eσ_14, h⟩ := lt_at h
          refine q_iastk C hw tM_1 (k := 6) (by rfl) (by decide) (by decide) eσ_14 dX12_go_56 (fun H locs hw => ?_)
          refine lv_aload_n hx hb dX12_go_57 rfl (lv_at hl 0 rfl) ?_
          refine gf_12_1 C hw tM_0 kw_1019 dX12_go_58 ?_
          refine lv_bipush (v := 10) hx hb dX12_go_61 (by decide) ?_
          refine q_ialdk C hw tM_1 (k := 10) (by rfl) (by decide) (by decide) dX12_go_63 ?_
          refine lv_iconst (v := 1) hx hb dX12_go_64 (by decide) ?_
          refine lv_icmp_ne (tgt := 70) hx hb dX12_go_65 (by decide) (fun c_15 => ?_) (fun c_15 => ?_)
          · replace h := ie_at h c_15
            refine lv_aload_n hx hb dX12_go_70 rfl (lv_at hl 0 rfl) ?_
            refine lv_aload_n hx hb dX12_go_71 rfl (lv_at hl 0 rfl) ?_
            refine gf_12_1 C hw tM_0 kw_1019 dX12_go_72 ?_
            refine lv_iconst (v := 5) hx hb dX12_go_75 (by decide) ?_
            refine q_ialdk C hw tM_1 (k := 5) (by rfl) (by decide) (by decide) dX12_go_76 ?_
            refine lv_iload_n hx hb dX12_go_77 rfl (lv_at hl 1 rfl) ?_
            refine lv_iload_n hx hb dX12_go_78 rfl (lv_at hl 2 rfl) ?_
            refine lv_aload_n hx hb dX12_go_79 rfl (lv_at hl 0 rfl) ?_
            refine gf_12_1 C hw tM_0 kw_1019 dX12_go_80 ?_
            refine lv_bipush (v := 7) hx hb dX12_go_83 (by decide) ?_
            refine q_ialdk C hw tM_1 (k := 7) (by rfl) (by decide) (by decide) dX12_go_85 ?_
            refine lv_aload_n hx hb dX12_go_86 rfl (lv_at hl 0 rfl) ?_
            refine gf_12_1 C hw tM_0 kw_1019 dX12_go_87 ?_
            refine lv_bipush (v := 8) hx hb dX12_go_90 (by decide) ?_
            refine q_ialdk C hw tM_1 (k := 8) (by rfl) (by decide) (by decide) dX12_go_92 ?_
            obtain ⟨σ_17, h_18, h⟩ := bv_at h
            refine q_afterV hw (q_runV C hw hl.1 (As := [.int (gI σ_14 1 5), .int p1, .int p2, .int (gI σ_14 1 7), .int (gI σ_14 1 8)]) (rest := []) (m_X12_hourOf l E (gI σ_14 1 5) p1 p2 (gI σ_14 1 7) (gI σ_14 1 8) σ_14 σ_17 h_18) yq_X12_hourOf tM_0 rfl rfl kw_1228 ⟨Nat.le_of_ble_eq_true rfl, Nat.le_of_ble_eq_true rfl⟩ rfl (Nat.le_of_ble_eq_true rfl) ⟨Nat.zero_le _, Nat.zero_le _⟩ dX12_go_93) (fun H locs hw => ?_)
            refine lv_aload_n hx hb dX12_go_96 rfl (lv_at hl 0 rfl) ?_
            refine gf_12_1 C hw tM_0 kw_1019 dX12_go_97 ?_
            refine lv_bipush (v := 10) hx hb dX12_go_100 (by decide) ?_
            refine lv_aload_n hx hb dX12_go_102 rfl (lv_at hl 0 rfl) ?_
            refine gf_12_11 C hw tM_0 kw_1029 dX12_go_103 ?_
            refine lv_if_eq (tgt := 113) hx hb dX12_go_106 (by decide) (fun c_19 => ?_) (fun c_19 => ?_)
            · replace h := it_at h c_19
              refine lv_iconst (v := 0) hx hb dX12_go_113 (by decide) ?_
              exact w_X12_go_114 C _ _ _ _ _ _ hw (lv_sub hl [0] rfl) h
            · replace h := ie_at h c_19
              refine lv_iconst (v := 1) hx hb dX12_go_109 (by decide) ?_
              refine lv_goto (tgt := 114) hx hb dX12_go_110 (by decide) ?_
              exact w_X12_go_114 C _ _ _ _ _ _ hw (lv_sub hl [0] rfl) h
          · replace h := it_at h c_15
            refine lv_iconst (v := (-1)) hx hb dX12_go_68 (by decide) ?_
            obtain ⟨rfl, rfl⟩ := ret_at h
            exact q_iret C hw dX12_go_69
        · replace h := it_at h c_13
          refine lv_bipush (v := (-13)) hx hb dX12_go_43 (by decide) ?_
          obtain ⟨rfl, rfl⟩ := ret_at h
          exact q_iret C hw dX12_go_45
    · replace h := it_at h c_8
      refine lv_bipush (v := (-12)) hx hb dX12_go_20 (by decide) ?_
      obtain ⟨rfl, rfl⟩ := ret_at h
      exact q_iret C hw dX12_go_22
  · replace h := it_at h c_4
    refine lv_bipush (v := (-11)) hx hb dX12_go_7 (by decide) ?_
    obtain ⟨rfl, rfl⟩ := ret_at h
    exact q_iret C hw dX12_go_9
def f_X12_image_2 (k2 : Int32 → Mem → Option (Int32 × Mem)) (x1 : Int32) (σ : Mem) : Option (Int32 × Mem) :=
  if (1055 : Int32) ≤ x1 then
    (lt (sI σ 0 3 (1 : Int32)) fun σ_2 =>
    some (gI σ_2 1 0, σ_2))
  else
    gd (ib x1 1055) <|
    gd (ib x1 1055) <|
    lt (sI σ 2 x1.toNatClampNeg (gI σ 1 x1.toNatClampNeg)) fun σ_4 =>
    lt (x1 + (1 : Int32)) fun x1_6 =>
    k2 x1_6 σ_4
def f_X12_image (σ : Mem) : Option (Int32 × Mem) :=
  fx2 (f_X12_image_2) FU (0 : Int32) σ
set_option maxHeartbeats 4000000 in
set_option maxRecDepth 100000 in
theorem w_X12_image_2 {p : Program} {l : Launch} {e : Env} {s : State} {m : MethodId} {args : Array Value} {below : List Frame} {meth : Method} {c : Code} {E : EV} {rr : Int32} {τ : Mem} (C : Cx E p s m args meth c cX12_image 2 (some .int) RX12) : ∀ (n : Nat) (x1 : Int32) (σ : Mem) (H : Heap) (locs : List Loc) (ls : Array Slot) (hw : Wd TM E σ s H locs) (hl : lv_has ls 2 [(0, .ref (E.2.1 (0))), (1, .int x1)]) (h : fx2 (f_X12_image_2) n x1 σ = some (rr, τ)), W p l e { frames := 0, cells := 0, slots := 0, locals := 0 } s m args below meth c H locs 0 0 (MQ below (QI TM E rr τ) args s 0 0 E.2.2.1) (F0 m 2 ls []) := by
  obtain ⟨hx, hb, hml, hown, hts, hK, hSt, hlk, hr⟩ := id C
  intro n
  induction n with
  | zero =>
    intro x1 σ H locs ls hw hl h
    have h : none = some (rr, τ) := h
    cases h
  | succ n hk2 =>
    intro x1 σ H locs ls hw hl h
    replace h : f_X12_image_2 (fx2 (f_X12_image_2) n) x1 σ = some (rr, τ) := h
    unfold f_X12_image_2 at h
    refine lv_iload_n hx hb dX12_image_2 rfl (lv_at hl 1 rfl) ?_
    refine lv_sipush (v := 1055) hx hb dX12_image_3 (by decide) ?_
    refine lv_icmp_ge (tgt := 27) hx hb dX12_image_6 (by decide) (fun c_1 => ?_) (fun c_1 => ?_)
    · replace h := it_at h c_1
      refine lv_aload_n hx hb dX12_image_27 rfl (lv_at hl 0 rfl) ?_
      refine lv_iconst (v := 1) hx hb dX12_image_28 (by decide) ?_
      obtain ⟨σ_2, eσ_2, h⟩ := lt_at h
      refine pf_12_3 C hw tM_0 kw_1021 (by decide) eσ_2 dX12_image_29 (fun H locs hw => ?_)
      refine lv_aload_n hx hb dX12_image_32 rfl (lv_at hl 0 rfl) ?_
      refine gf_12_1 C hw tM_0 kw_1019 dX12_image_33 ?_
      refine lv_iconst (v := 0) hx hb dX12_image_36 (by decide) ?_
      refine q_ialdk C hw tM_1 (k := 0) (by rfl) (by decide) (by decide) dX12_image_37 ?_
      obtain ⟨rfl, rfl⟩ := ret_at h
      exact q_iret C hw dX12_image_38
    · replace h := ie_at h c_1
      refine lv_aload_n hx hb dX12_image_9 rfl (lv_at hl 0 rfl) ?_
      refine gf_12_2 C hw tM_0 kw_1020 dX12_image_10 ?_
      refine lv_iload_n hx hb dX12_image_13 rfl (lv_at hl 1 rfl) ?_
      refine lv_aload_n hx hb dX12_image_14 rfl (lv_at hl 0 rfl) ?_
      refine gf_12_1 C hw tM_0 kw_1019 dX12_image_15 ?_
      refine lv_iload_n hx hb dX12_image_18 rfl (lv_at hl 1 rfl) ?_
      obtain ⟨g_3, h⟩ := gd_at h
      refine q_iald C hw tM_1 g_3 dX12_image_19 ?_
      obtain ⟨g_5, h⟩ := gd_at h
      obtain ⟨σ_4, eσ_4, h⟩ := lt_at h
      refine q_iast C hw tM_2 g_5 eσ_4 dX12_image_20 (fun H locs hw => ?_)
      obtain ⟨x1_6, ex1_6, h⟩ := lt_at h
      refine lv_iinc (v := x1_6) (lv' := [(1, .int x1_6), (0, .ref (E.2.1 (0)))]) hx hb dX12_image_21 hl (k := 1) rfl (by rw [ex1_6]; rfl) (by decide) rfl (fun ls hl => ?_)
      refine lv_goto (tgt := 2) hx hb dX12_image_24 (by decide) ?_
      exact hk2 _ _ _ _ _ hw (lv_sub hl [1, 0] rfl) h
set_option maxHeartbeats 4000000 in
set_option maxRecDepth 100000 in
theorem m_X12_image (l : Launch) (E : EV) (σ : Mem) (rr : Int32) (τ : Mem) (h : f_X12_image  σ = some (rr, τ)) : MI TM l E yX12_image cX12_image 2 (some .int) 0 0 [.ref (E.2.1 (0))] σ rr τ := by
  refine mt_start RX12 (by decide +kernel) rfl (Nat.le_of_ble_eq_true rfl) (fun p e s m args below meth c ls C hw hl => ?_)
  replace hl : lv_has ls 2 [(0, .ref (E.2.1 (0)))] := hl
  obtain ⟨hx, hb, hml, hown, hts, hK, hSt, hlk, hr⟩ := id C
  unfold f_X12_image at h
  refine lv_iconst (v := 0) hx hb dX12_image_0 (by decide) ?_
  refine lv_istore_n (lv' := [(1, .int (0 : Int32)), (0, .ref (E.2.1 (0)))]) hx hb dX12_image_1 rfl hl (by decide) rfl (fun ls hl => ?_)
  exact w_X12_image_2 C _ _ _ _ _ _ hw (lv_sub hl [1, 0] rfl) h
def f_X12_isRest_67 (k5 : Int32 → Int32 → Int32 → Int32 → Mem → Option (Int32 × Mem)) (k24 : Int32 → Int32 → Int32 → Int32 → Int32 → Int32 → Mem → Option (Int32 × Mem)) (x1 : Int32) (x2 : Int32) (x4 : Int32) (x5 : Int32) (x6 : Int32) (s0 : Int32) (σ : Mem) : Option (Int32 × Mem) :=
  lt (x6 + (1 : Int32)) fun x6_19 =>
  k24 x1 x2 s0 x4 x5 x6_19 σ
def f_X12_isRest_66 (k5 : Int32 → Int32 → Int32 → Int32 → Mem → Option (Int32 × Mem)) (k24 : Int32 → Int32 → Int32 → Int32 → Int32 → Int32 → Mem → Option (Int32 × Mem)) (x1 : Int32) (x2 : Int32) (x4 : Int32) (x5 : Int32) (x6 : Int32) (σ : Mem) : Option (Int32 × Mem) :=
  f_X12_isRest_67 k5 k24 x1 x2 x4 x5 x6 (0 : Int32) σ
def f_X12_isRest_24 (k5 : Int32 → Int32 → Int32 → Int32 → Mem → Option (Int32 × Mem)) (k24 : Int32 → Int32 → Int32 → Int32 → Int32 → Int32 → Mem → Option (Int32 × Mem)) (x1 : Int32) (x2 : Int32) (x3 : Int32) (x4 : Int32) (x5 : Int32) (x6 : Int32) (σ : Mem) : Option (Int32 × Mem) :=
  if (4 : Int32) ≤ x6 then
    (lt (x4 + (1 : Int32)) fun x4_7 =>
    k5 x1 x2 x3 x4_7 σ)
  else
    if x3 = 0 then
      (f_X12_isRest_66 k5 k24 x1 x2 x4 x5 x6 σ)
    else
      bd (f_X12_mealAt x4 x5 x6 σ) fun r_9 σ_10 =>
      bd (f_X12_clothAt x4 x2 σ_10) fun r_12 σ_13 =>
      bd (f_X12_mealAt x4 x5 r_12 σ_13) fun r_15 σ_16 =>
      if r_15 < r_9 then
        (f_X12_isRest_66 k5 k24 x1 x2 x4 x5 x6 σ_16)
      else
        f_X12_isRest_67 k5 k24 x1 x2 x4 x5 x6 (1 : Int32) σ_16
def f_X12_isRest_5 (k5 : Int32 → Int32 → Int32 → Int32 → Mem → Option (Int32 × Mem)) (x1 : Int32) (x2 : Int32) (x3 : Int32) (x4 : Int32) (σ : Mem) : Option (Int32 × Mem) :=
  if (3 : Int32) ≤ x4 then
    (gd (iz x3) (some (x3, σ)))
  else
    bd (f_X12_windAt x4 x1 x2 σ) fun r_3 σ_4 =>
    fx7 (f_X12_isRest_24 k5) FU x1 x2 x3 x4 r_3 (0 : Int32) σ_4
def f_X12_isRest (p1 : Int32) (p2 : Int32) (σ : Mem) : Option (Int32 × Mem) :=
  fx5 (f_X12_isRest_5) FU p1 p2 (1 : Int32) (0 : Int32) σ
set_option maxHeartbeats 4000000 in
set_option maxRecDepth 100000 in
theorem w_X12_isRest_67 {p : Program} {l : Launch} {e : Env} {s : State} {m : MethodId} {args : Array Value} {below : List Frame} {meth : Method} {c : Code} {E : EV} {rr : Int32} {τ : Mem} (C : Cx E p s m args meth c cX12_isRest 7 (some .boolean) RX12) (k5 : Int32 → Int32 → Int32 → Int32 → Mem → Option (Int32 × Mem)) (hk5 : ∀ (x1 : Int32) (x2 : Int32) (x3 : Int32) (x4 : Int32) (σ : Mem) (H : Heap) (locs : List Loc) (ls : Array Slot) (hw : Wd TM E σ s H locs) (hl : lv_has ls 7 [(0, .ref (E.2.1 (0))), (1, .int x1), (2, .int x2), (3, .int x3), (4, .int x4)]) (h : k5 x1 x2 x3 x4 σ = some (rr, τ)), W p l e { frames := 1, cells := 0, slots := 0, locals := 24 } s m args below meth c H locs 0 0 (MQ below (QI TM E rr τ) args s 0 0 E.2.2.1) (F0 m 5 ls [])) (k24 : Int32 → Int32 → Int32 → Int32 → Int32 → Int32 → Mem → Option (Int32 × Mem)) (hk24 : ∀ (x1 : Int32) (x2 : Int32) (x3 : Int32) (x4 : Int32) (x5 : Int32) (x6 : Int32) (σ : Mem) (H : Heap) (locs : List Loc) (ls : Array Slot) (hw : Wd TM E σ s H locs) (hl : lv_has ls 7 [(0, .ref (E.2.1 (0))), (1, .int x1), (2, .int x2), (3, .int x3), (4, .int x4), (5, .int x5), (6, .int x6)]) (h : k24 x1 x2 x3 x4 x5 x6 σ = some (rr, τ)), W p l e { frames := 1, cells := 0, slots := 0, locals := 24 } s m args below meth c H locs 0 0 (MQ below (QI TM E rr τ) args s 0 0 E.2.2.1) (F0 m 24 ls [])) : ∀ (x1 : Int32) (x2 : Int32) (x4 : Int32) (x5 : Int32) (x6 : Int32) (s0 : Int32) (σ : Mem) (H : Heap) (locs : List Loc) (ls : Array Slot) (hw : Wd TM E σ s H locs) (hl : lv_has ls 7 [(0, .ref (E.2.1 (0))), (1, .int x1), (2, .int x2), (4, .int x4), (5, .int x5), (6, .int x6)]) (h : f_X12_isRest_67 k5 k24 x1 x2 x4 x5 x6 s0 σ = some (rr, τ)), W p l e { frames := 1, cells := 0, slots := 0, locals := 24 } s m args below meth c H locs 0 0 (MQ below (QI TM E rr τ) args s 0 0 E.2.2.1) (F0 m 67 ls [.int s0]) := by
  obtain ⟨hx, hb, hml, hown, hts, hK, hSt, hlk, hr⟩ := id C
  intro x1 x2 x4 x5 x6 s0 σ H locs ls hw hl h
  unfold f_X12_isRest_67 at h
  refine lv_istore_n (lv' := [(3, .int s0), (0, .ref (E.2.1 (0))), (1, .int x1), (2, .int x2), (4, .int x4), (5, .int x5), (6, .int x6)]) hx hb dX12_isRest_67 rfl hl (by decide) rfl (fun ls hl => ?_)
  obtain ⟨x6_19, ex6_19, h⟩ := lt_at h
  refine lv_iinc (v := x6_19) (lv' := [(6, .int x6_19), (3, .int s0), (0, .ref (E.2.1 (0))), (1, .int x1), (2, .int x2), (4, .int x4), (5, .int x5)]) hx hb dX12_isRest_68 hl (k := 6) rfl (by rw [ex6_19]; rfl) (by decide) rfl (fun ls hl => ?_)
  refine lv_goto (tgt := 24) hx hb dX12_isRest_71 (by decide) ?_
  exact hk24 _ _ _ _ _ _ _ _ _ _ hw (lv_sub hl [2, 3, 4, 1, 5, 6, 0] rfl) h
set_option maxHeartbeats 4000000 in
set_option maxRecDepth 100000 in
theorem w_X12_isRest_66 {p : Program} {l : Launch} {e : Env} {s : State} {m : MethodId} {args : Array Value} {below : List Frame} {meth : Method} {c : Code} {E : EV} {rr : Int32} {τ : Mem} (C : Cx E p s m args meth c cX12_isRest 7 (some .boolean) RX12) (k5 : Int32 → Int32 → Int32 → Int32 → Mem → Option (Int32 × Mem)) (hk5 : ∀ (x1 : Int32) (x2 : Int32) (x3 : Int32) (x4 : Int32) (σ : Mem) (H : Heap) (locs : List Loc) (ls : Array Slot) (hw : Wd TM E σ s H locs) (hl : lv_has ls 7 [(0, .ref (E.2.1 (0))), (1, .int x1), (2, .int x2), (3, .int x3), (4, .int x4)]) (h : k5 x1 x2 x3 x4 σ = some (rr, τ)), W p l e { frames := 1, cells := 0, slots := 0, locals := 24 } s m args below meth c H locs 0 0 (MQ below (QI TM E rr τ) args s 0 0 E.2.2.1) (F0 m 5 ls [])) (k24 : Int32 → Int32 → Int32 → Int32 → Int32 → Int32 → Mem → Option (Int32 × Mem)) (hk24 : ∀ (x1 : Int32) (x2 : Int32) (x3 : Int32) (x4 : Int32) (x5 : Int32) (x6 : Int32) (σ : Mem) (H : Heap) (locs : List Loc) (ls : Array Slot) (hw : Wd TM E σ s H locs) (hl : lv_has ls 7 [(0, .ref (E.2.1 (0))), (1, .int x1), (2, .int x2), (3, .int x3), (4, .int x4), (5, .int x5), (6, .int x6)]) (h : k24 x1 x2 x3 x4 x5 x6 σ = some (rr, τ)), W p l e { frames := 1, cells := 0, slots := 0, locals := 24 } s m args below meth c H locs 0 0 (MQ below (QI TM E rr τ) args s 0 0 E.2.2.1) (F0 m 24 ls [])) : ∀ (x1 : Int32) (x2 : Int32) (x4 : Int32) (x5 : Int32) (x6 : Int32) (σ : Mem) (H : Heap) (locs : List Loc) (ls : Array Slot) (hw : Wd TM E σ s H locs) (hl : lv_has ls 7 [(0, .ref (E.2.1 (0))), (1, .int x1), (2, .int x2), (4, .int x4), (5, .int x5), (6, .int x6)]) (h : f_X12_isRest_66 k5 k24 x1 x2 x4 x5 x6 σ = some (rr, τ)), W p l e { frames := 1, cells := 0, slots := 0, locals := 24 } s m args below meth c H locs 0 0 (MQ below (QI TM E rr τ) args s 0 0 E.2.2.1) (F0 m 66 ls []) := by
  obtain ⟨hx, hb, hml, hown, hts, hK, hSt, hlk, hr⟩ := id C
  intro x1 x2 x4 x5 x6 σ H locs ls hw hl h
  unfold f_X12_isRest_66 at h
  refine lv_iconst (v := 0) hx hb dX12_isRest_66 (by decide) ?_
  exact w_X12_isRest_67 C _ hk5 _ hk24 _ _ _ _ _ _ _ _ _ _ hw (lv_sub hl [0, 1, 2, 3, 4, 5] rfl) h
set_option maxHeartbeats 4000000 in
set_option maxRecDepth 100000 in
theorem w_X12_isRest_24 {p : Program} {l : Launch} {e : Env} {s : State} {m : MethodId} {args : Array Value} {below : List Frame} {meth : Method} {c : Code} {E : EV} {rr : Int32} {τ : Mem} (C : Cx E p s m args meth c cX12_isRest 7 (some .boolean) RX12) (k5 : Int32 → Int32 → Int32 → Int32 → Mem → Option (Int32 × Mem)) (hk5 : ∀ (x1 : Int32) (x2 : Int32) (x3 : Int32) (x4 : Int32) (σ : Mem) (H : Heap) (locs : List Loc) (ls : Array Slot) (hw : Wd TM E σ s H locs) (hl : lv_has ls 7 [(0, .ref (E.2.1 (0))), (1, .int x1), (2, .int x2), (3, .int x3), (4, .int x4)]) (h : k5 x1 x2 x3 x4 σ = some (rr, τ)), W p l e { frames := 1, cells := 0, slots := 0, locals := 24 } s m args below meth c H locs 0 0 (MQ below (QI TM E rr τ) args s 0 0 E.2.2.1) (F0 m 5 ls [])) : ∀ (n : Nat) (x1 : Int32) (x2 : Int32) (x3 : Int32) (x4 : Int32) (x5 : Int32) (x6 : Int32) (σ : Mem) (H : Heap) (locs : List Loc) (ls : Array Slot) (hw : Wd TM E σ s H locs) (hl : lv_has ls 7 [(0, .ref (E.2.1 (0))), (1, .int x1), (2, .int x2), (3, .int x3), (4, .int x4), (5, .int x5), (6, .int x6)]) (h : fx7 (f_X12_isRest_24 k5) n x1 x2 x3 x4 x5 x6 σ = some (rr, τ)), W p l e { frames := 1, cells := 0, slots := 0, locals := 24 } s m args below meth c H locs 0 0 (MQ below (QI TM E rr τ) args s 0 0 E.2.2.1) (F0 m 24 ls []) := by
  obtain ⟨hx, hb, hml, hown, hts, hK, hSt, hlk, hr⟩ := id C
  intro n
  induction n with
  | zero =>
    intro x1 x2 x3 x4 x5 x6 σ H locs ls hw hl h
    have h : none = some (rr, τ) := h
    cases h
  | succ n hk24 =>
    intro x1 x2 x3 x4 x5 x6 σ H locs ls hw hl h
    replace h : f_X12_isRest_24 k5 (fx7 (f_X12_isRest_24 k5) n) x1 x2 x3 x4 x5 x6 σ = some (rr, τ) := h
    unfold f_X12_isRest_24 at h
    refine lv_iload hx hb dX12_isRest_24 (lv_at hl 6 rfl) ?_
    refine lv_iconst (v := 4) hx hb dX12_isRest_26 (by decide) ?_
    refine lv_icmp_ge (tgt := 74) hx hb dX12_isRest_27 (by decide) (fun c_6 => ?_) (fun c_6 => ?_)
    · replace h := it_at h c_6
      obtain ⟨x4_7, ex4_7, h⟩ := lt_at h
      refine lv_iinc (v := x4_7) (lv' := [(4, .int x4_7), (0, .ref (E.2.1 (0))), (1, .int x1), (2, .int x2), (3, .int x3), (5, .int x5), (6, .int x6)]) hx hb dX12_isRest_74 hl (k := 4) rfl (by rw [ex4_7]; rfl) (by decide) rfl (fun ls hl => ?_)
      refine lv_goto (tgt := 5) hx hb dX12_isRest_77 (by decide) ?_
      exact hk5 _ _ _ _ _ _ _ _ hw (lv_sub hl [1, 2, 3, 4, 0] rfl) h
    · replace h := ie_at h c_6
      refine lv_iload_n hx hb dX12_isRest_30 rfl (lv_at hl 3 rfl) ?_
      refine lv_if_eq (tgt := 66) hx hb dX12_isRest_31 (by decide) (fun c_8 => ?_) (fun c_8 => ?_)
      · replace h := it_at h c_8
        exact w_X12_isRest_66 C _ hk5 _ hk24 _ _ _ _ _ _ _ _ _ hw (lv_sub hl [0, 1, 2, 4, 5, 6] rfl) h
      · replace h := ie_at h c_8
        refine lv_aload_n hx hb dX12_isRest_34 rfl (lv_at hl 0 rfl) ?_
        refine lv_iload hx hb dX12_isRest_35 (lv_at hl 4 rfl) ?_
        refine lv_iload hx hb dX12_isRest_37 (lv_at hl 5 rfl) ?_
        refine lv_iload hx hb dX12_isRest_39 (lv_at hl 6 rfl) ?_
        obtain ⟨r_9, σ_10, h_11, h⟩ := bd_at h
        refine q_afterI hw (q_runV C hw hl.1 (As := [.int x4, .int x5, .int x6]) (rest := []) (m_X12_mealAt l E x4 x5 x6 σ r_9 σ_10 h_11) yq_X12_mealAt tM_0 rfl rfl kw_1390 ⟨Nat.le_of_ble_eq_true rfl, Nat.le_of_ble_eq_true rfl⟩ rfl (Nat.le_of_ble_eq_true rfl) ⟨Nat.zero_le _, Nat.zero_le _⟩ dX12_isRest_41) (fun H locs hw => ?_)
        refine lv_aload_n hx hb dX12_isRest_44 rfl (lv_at hl 0 rfl) ?_
        refine lv_iload hx hb dX12_isRest_45 (lv_at hl 4 rfl) ?_
        refine lv_iload hx hb dX12_isRest_47 (lv_at hl 5 rfl) ?_
        refine lv_aload_n hx hb dX12_isRest_49 rfl (lv_at hl 0 rfl) ?_
        refine lv_iload hx hb dX12_isRest_50 (lv_at hl 4 rfl) ?_
        refine lv_iload_n hx hb dX12_isRest_52 rfl (lv_at hl 2 rfl) ?_
        obtain ⟨r_12, σ_13, h_14, h⟩ := bd_at h
        refine q_afterI hw (q_runV C hw hl.1 (As := [.int x4, .int x2]) (rest := [.int x5, .int x4, .ref (E.2.1 (0)), .int r_9]) (m_X12_clothAt l E x4 x2 σ_10 r_12 σ_13 h_14) yq_X12_clothAt tM_0 rfl rfl kw_1386 ⟨Nat.le_of_ble_eq_true rfl, Nat.le_of_ble_eq_true rfl⟩ rfl (Nat.le_of_ble_eq_true rfl) ⟨Nat.zero_le _, Nat.zero_le _⟩ dX12_isRest_53) (fun H locs hw => ?_)
        obtain ⟨r_15, σ_16, h_17, h⟩ := bd_at h
        refine q_afterI hw (q_runV C hw hl.1 (As := [.int x4, .int x5, .int r_12]) (rest := [.int r_9]) (m_X12_mealAt l E x4 x5 r_12 σ_13 r_15 σ_16 h_17) yq_X12_mealAt tM_0 rfl rfl kw_1390 ⟨Nat.le_of_ble_eq_true rfl, Nat.le_of_ble_eq_true rfl⟩ rfl (Nat.le_of_ble_eq_true rfl) ⟨Nat.zero_le _, Nat.zero_le _⟩ dX12_isRest_56) (fun H locs hw => ?_)
        refine lv_icmp_gt (tgt := 66) hx hb dX12_isRest_59 (by decide) (fun c_18 => ?_) (fun c_18 => ?_)
        · replace h := it_at h c_18
          exact w_X12_isRest_66 C _ hk5 _ hk24 _ _ _ _ _ _ _ _ _ hw (lv_sub hl [0, 1, 2, 4, 5, 6] rfl) h
        · replace h := ie_at h c_18
          refine lv_iconst (v := 1) hx hb dX12_isRest_62 (by decide) ?_
          refine lv_goto (tgt := 67) hx hb dX12_isRest_63 (by decide) ?_
          exact w_X12_isRest_67 C _ hk5 _ hk24 _ _ _ _ _ _ _ _ _ _ hw (lv_sub hl [0, 1, 2, 4, 5, 6] rfl) h
set_option maxHeartbeats 4000000 in
set_option maxRecDepth 100000 in
theorem w_X12_isRest_5 {p : Program} {l : Launch} {e : Env} {s : State} {m : MethodId} {args : Array Value} {below : List Frame} {meth : Method} {c : Code} {E : EV} {rr : Int32} {τ : Mem} (C : Cx E p s m args meth c cX12_isRest 7 (some .boolean) RX12) : ∀ (n : Nat) (x1 : Int32) (x2 : Int32) (x3 : Int32) (x4 : Int32) (σ : Mem) (H : Heap) (locs : List Loc) (ls : Array Slot) (hw : Wd TM E σ s H locs) (hl : lv_has ls 7 [(0, .ref (E.2.1 (0))), (1, .int x1), (2, .int x2), (3, .int x3), (4, .int x4)]) (h : fx5 (f_X12_isRest_5) n x1 x2 x3 x4 σ = some (rr, τ)), W p l e { frames := 1, cells := 0, slots := 0, locals := 24 } s m args below meth c H locs 0 0 (MQ below (QI TM E rr τ) args s 0 0 E.2.2.1) (F0 m 5 ls []) := by
  obtain ⟨hx, hb, hml, hown, hts, hK, hSt, hlk, hr⟩ := id C
  intro n
  induction n with
  | zero =>
    intro x1 x2 x3 x4 σ H locs ls hw hl h
    have h : none = some (rr, τ) := h
    cases h
  | succ n hk5 =>
    intro x1 x2 x3 x4 σ H locs ls hw hl h
    replace h : f_X12_isRest_5 (fx5 (f_X12_isRest_5) n) x1 x2 x3 x4 σ = some (rr, τ) := h
    unfold f_X12_isRest_5 at h
    refine lv_iload hx hb dX12_isRest_5 (lv_at hl 4 rfl) ?_
    refine lv_iconst (v := 3) hx hb dX12_isRest_7 (by decide) ?_
    refine lv_icmp_ge (tgt := 80) hx hb dX12_isRest_8 (by decide) (fun c_1 => ?_) (fun c_1 => ?_)
    · replace h := it_at h c_1
      refine lv_iload_n hx hb dX12_isRest_80 rfl (lv_at hl 3 rfl) ?_
      obtain ⟨g_2, h⟩ := gd_at h
      obtain ⟨rfl, rfl⟩ := ret_at h
      exact q_zret C g_2 hw dX12_isRest_81
    · replace h := ie_at h c_1
      refine lv_aload_n hx hb dX12_isRest_11 rfl (lv_at hl 0 rfl) ?_
      refine lv_iload hx hb dX12_isRest_12 (lv_at hl 4 rfl) ?_
      refine lv_iload_n hx hb dX12_isRest_14 rfl (lv_at hl 1 rfl) ?_
      refine lv_iload_n hx hb dX12_isRest_15 rfl (lv_at hl 2 rfl) ?_
      obtain ⟨r_3, σ_4, h_5, h⟩ := bd_at h
      refine q_afterI hw (q_runV C hw hl.1 (As := [.int x4, .int x1, .int x2]) (rest := []) (m_X12_windAt l E x4 x1 x2 σ r_3 σ_4 h_5) yq_X12_windAt tM_0 rfl rfl kw_1382 ⟨Nat.le_of_ble_eq_true rfl, Nat.le_of_ble_eq_true rfl⟩ rfl (Nat.le_of_ble_eq_true rfl) ⟨Nat.zero_le _, Nat.zero_le _⟩ dX12_isRest_16) (fun H locs hw => ?_)
      refine lv_istore (lv' := [(5, .int r_3), (0, .ref (E.2.1 (0))), (1, .int x1), (2, .int x2), (3, .int x3), (4, .int x4)]) hx hb dX12_isRest_19 hl (by decide) rfl (fun ls hl => ?_)
      refine lv_iconst (v := 0) hx hb dX12_isRest_21 (by decide) ?_
      refine lv_istore (lv' := [(6, .int (0 : Int32)), (5, .int r_3), (0, .ref (E.2.1 (0))), (1, .int x1), (2, .int x2), (3, .int x3), (4, .int x4)]) hx hb dX12_isRest_22 hl (by decide) rfl (fun ls hl => ?_)
      exact w_X12_isRest_24 C _ hk5 _ _ _ _ _ _ _ _ _ _ _ hw (lv_sub hl [2, 3, 4, 5, 6, 1, 0] rfl) h
set_option maxHeartbeats 4000000 in
set_option maxRecDepth 100000 in
theorem m_X12_isRest (l : Launch) (E : EV) (p1 : Int32) (p2 : Int32) (σ : Mem) (rr : Int32) (τ : Mem) (h : f_X12_isRest p1 p2 σ = some (rr, τ)) : MI TM l E yX12_isRest cX12_isRest 7 (some .boolean) 1 24 [.ref (E.2.1 (0)), .int p1, .int p2] σ rr τ := by
  refine mt_start RX12 (by decide +kernel) rfl (Nat.le_of_ble_eq_true rfl) (fun p e s m args below meth c ls C hw hl => ?_)
  replace hl : lv_has ls 7 [(0, .ref (E.2.1 (0))), (1, .int p1), (2, .int p2)] := hl
  obtain ⟨hx, hb, hml, hown, hts, hK, hSt, hlk, hr⟩ := id C
  unfold f_X12_isRest at h
  refine lv_iconst (v := 1) hx hb dX12_isRest_0 (by decide) ?_
  refine lv_istore_n (lv' := [(3, .int (1 : Int32)), (0, .ref (E.2.1 (0))), (1, .int p1), (2, .int p2)]) hx hb dX12_isRest_1 rfl hl (by decide) rfl (fun ls hl => ?_)
  refine lv_iconst (v := 0) hx hb dX12_isRest_2 (by decide) ?_
  refine lv_istore (lv' := [(4, .int (0 : Int32)), (3, .int (1 : Int32)), (0, .ref (E.2.1 (0))), (1, .int p1), (2, .int p2)]) hx hb dX12_isRest_3 hl (by decide) rfl (fun ls hl => ?_)
  exact w_X12_isRest_5 C _ _ _ _ _ _ _ _ _ hw (lv_sub hl [2, 3, 4, 1, 0] rfl) h
def f_X12_mostMeal_43 (k6 : Int32 → Int32 → Int32 → Int32 → Int32 → Mem → Option (Int32 × Mem)) (x1 : Int32) (x2 : Int32) (x3 : Int32) (x5 : Int32) (s0 : Int32) (σ : Mem) : Option (Int32 × Mem) :=
  lt (x5 + (1 : Int32)) fun x5_8 =>
  k6 x1 x2 x3 s0 x5_8 σ
def f_X12_mostMeal_6 (k6 : Int32 → Int32 → Int32 → Int32 → Int32 → Mem → Option (Int32 × Mem)) (x1 : Int32) (x2 : Int32) (x3 : Int32) (x4 : Int32) (x5 : Int32) (σ : Mem) : Option (Int32 × Mem) :=
  if (8 : Int32) ≤ x5 then
    (some (x4, σ))
  else
    bd (f_X12_hourPlace x1 x5 x2 x3 σ) fun r_2 σ_3 =>
    gd (ib r_2 4800) <|
    lt (gI σ_3 6 r_2.toNatClampNeg) fun x6_6 =>
    if x6_6 ≤ x4 then
      (f_X12_mostMeal_43 k6 x1 x2 x3 x5 x4 σ_3)
    else
      f_X12_mostMeal_43 k6 x1 x2 x3 x5 x6_6 σ_3
def f_X12_mostMeal (p1 : Int32) (p2 : Int32) (p3 : Int32) (σ : Mem) : Option (Int32 × Mem) :=
  fx6 (f_X12_mostMeal_6) FU p1 p2 p3 (0 : Int32) (0 : Int32) σ
set_option maxHeartbeats 4000000 in
set_option maxRecDepth 100000 in
theorem w_X12_mostMeal_43 {p : Program} {l : Launch} {e : Env} {s : State} {m : MethodId} {args : Array Value} {below : List Frame} {meth : Method} {c : Code} {E : EV} {rr : Int32} {τ : Mem} (C : Cx E p s m args meth c cX12_mostMeal 7 (some .int) RX12) (k6 : Int32 → Int32 → Int32 → Int32 → Int32 → Mem → Option (Int32 × Mem)) (hk6 : ∀ (x1 : Int32) (x2 : Int32) (x3 : Int32) (x4 : Int32) (x5 : Int32) (σ : Mem) (H : Heap) (locs : List Loc) (ls : Array Slot) (hw : Wd TM E σ s H locs) (hl : lv_has ls 7 [(0, .ref (E.2.1 (0))), (1, .int x1), (2, .int x2), (3, .int x3), (4, .int x4), (5, .int x5)]) (h : k6 x1 x2 x3 x4 x5 σ = some (rr, τ)), W p l e { frames := 4, cells := 0, slots := 0, locals := 106 } s m args below meth c H locs 0 0 (MQ below (QI TM E rr τ) args s 0 0 E.2.2.1) (F0 m 6 ls [])) : ∀ (x1 : Int32) (x2 : Int32) (x3 : Int32) (x5 : Int32) (s0 : Int32) (σ : Mem) (H : Heap) (locs : List Loc) (ls : Array Slot) (hw : Wd TM E σ s H locs) (hl : lv_has ls 7 [(0, .ref (E.2.1 (0))), (1, .int x1), (2, .int x2), (3, .int x3), (5, .int x5)]) (h : f_X12_mostMeal_43 k6 x1 x2 x3 x5 s0 σ = some (rr, τ)), W p l e { frames := 4, cells := 0, slots := 0, locals := 106 } s m args below meth c H locs 0 0 (MQ below (QI TM E rr τ) args s 0 0 E.2.2.1) (F0 m 43 ls [.int s0]) := by
  obtain ⟨hx, hb, hml, hown, hts, hK, hSt, hlk, hr⟩ := id C
  intro x1 x2 x3 x5 s0 σ H locs ls hw hl h
  unfold f_X12_mostMeal_43 at h
  refine lv_istore (lv' := [(4, .int s0), (0, .ref (E.2.1 (0))), (1, .int x1), (2, .int x2), (3, .int x3), (5, .int x5)]) hx hb dX12_mostMeal_43 hl (by decide) rfl (fun ls hl => ?_)
  obtain ⟨x5_8, ex5_8, h⟩ := lt_at h
  refine lv_iinc (v := x5_8) (lv' := [(5, .int x5_8), (4, .int s0), (0, .ref (E.2.1 (0))), (1, .int x1), (2, .int x2), (3, .int x3)]) hx hb dX12_mostMeal_45 hl (k := 5) rfl (by rw [ex5_8]; rfl) (by decide) rfl (fun ls hl => ?_)
  refine lv_goto (tgt := 6) hx hb dX12_mostMeal_48 (by decide) ?_
  exact hk6 _ _ _ _ _ _ _ _ _ hw (lv_sub hl [2, 3, 4, 5, 1, 0] rfl) h
set_option maxHeartbeats 4000000 in
set_option maxRecDepth 100000 in
theorem w_X12_mostMeal_6 {p : Program} {l : Launch} {e : Env} {s : State} {m : MethodId} {args : Array Value} {below : List Frame} {meth : Method} {c : Code} {E : EV} {rr : Int32} {τ : Mem} (C : Cx E p s m args meth c cX12_mostMeal 7 (some .int) RX12) : ∀ (n : Nat) (x1 : Int32) (x2 : Int32) (x3 : Int32) (x4 : Int32) (x5 : Int32) (σ : Mem) (H : Heap) (locs : List Loc) (ls : Array Slot) (hw : Wd TM E σ s H locs) (hl : lv_has ls 7 [(0, .ref (E.2.1 (0))), (1, .int x1), (2, .int x2), (3, .int x3), (4, .int x4), (5, .int x5)]) (h : fx6 (f_X12_mostMeal_6) n x1 x2 x3 x4 x5 σ = some (rr, τ)), W p l e { frames := 4, cells := 0, slots := 0, locals := 106 } s m args below meth c H locs 0 0 (MQ below (QI TM E rr τ) args s 0 0 E.2.2.1) (F0 m 6 ls []) := by
  obtain ⟨hx, hb, hml, hown, hts, hK, hSt, hlk, hr⟩ := id C
  intro n
  induction n with
  | zero =>
    intro x1 x2 x3 x4 x5 σ H locs ls hw hl h
    have h : none = some (rr, τ) := h
    cases h
  | succ n hk6 =>
    intro x1 x2 x3 x4 x5 σ H locs ls hw hl h
    replace h : f_X12_mostMeal_6 (fx6 (f_X12_mostMeal_6) n) x1 x2 x3 x4 x5 σ = some (rr, τ) := h
    unfold f_X12_mostMeal_6 at h
    refine lv_iload hx hb dX12_mostMeal_6 (lv_at hl 5 rfl) ?_
    refine lv_bipush (v := 8) hx hb dX12_mostMeal_8 (by decide) ?_
    refine lv_icmp_ge (tgt := 51) hx hb dX12_mostMeal_10 (by decide) (fun c_1 => ?_) (fun c_1 => ?_)
    · replace h := it_at h c_1
      refine lv_iload hx hb dX12_mostMeal_51 (lv_at hl 4 rfl) ?_
      obtain ⟨rfl, rfl⟩ := ret_at h
      exact q_iret C hw dX12_mostMeal_53
    · replace h := ie_at h c_1
      refine lv_aload_n hx hb dX12_mostMeal_13 rfl (lv_at hl 0 rfl) ?_
      refine gf_12_17 C hw tM_0 kw_1035 dX12_mostMeal_14 ?_
      refine lv_aload_n hx hb dX12_mostMeal_17 rfl (lv_at hl 0 rfl) ?_
      refine lv_iload_n hx hb dX12_mostMeal_18 rfl (lv_at hl 1 rfl) ?_
      refine lv_iload hx hb dX12_mostMeal_19 (lv_at hl 5 rfl) ?_
      refine lv_iload_n hx hb dX12_mostMeal_21 rfl (lv_at hl 2 rfl) ?_
      refine lv_iload_n hx hb dX12_mostMeal_22 rfl (lv_at hl 3 rfl) ?_
      obtain ⟨r_2, σ_3, h_4, h⟩ := bd_at h
      refine q_afterI hw (q_runV C hw hl.1 (As := [.int x1, .int x5, .int x2, .int x3]) (rest := [.ref (E.2.1 (6))]) (m_X12_hourPlace l E x1 x5 x2 x3 σ r_2 σ_3 h_4) yq_X12_hourPlace tM_0 rfl rfl kw_1287 ⟨Nat.le_of_ble_eq_true rfl, Nat.le_of_ble_eq_true rfl⟩ rfl (Nat.le_of_ble_eq_true rfl) ⟨Nat.zero_le _, Nat.zero_le _⟩ dX12_mostMeal_23) (fun H locs hw => ?_)
      obtain ⟨g_5, h⟩ := gd_at h
      refine q_iald C hw tM_6 g_5 dX12_mostMeal_26 ?_
      obtain ⟨x6_6, ex6_6, h⟩ := lt_at h
      refine q_top ex6_6 ?_
      refine lv_istore (lv' := [(6, .int x6_6), (0, .ref (E.2.1 (0))), (1, .int x1), (2, .int x2), (3, .int x3), (4, .int x4), (5, .int x5)]) hx hb dX12_mostMeal_27 hl (by decide) rfl (fun ls hl => ?_)
      refine lv_iload hx hb dX12_mostMeal_29 (lv_at hl 0 rfl) ?_
      refine lv_iload hx hb dX12_mostMeal_31 (lv_at hl 5 rfl) ?_
      refine lv_icmp_le (tgt := 41) hx hb dX12_mostMeal_33 (by decide) (fun c_7 => ?_) (fun c_7 => ?_)
      · replace h := it_at h c_7
        refine lv_iload hx hb dX12_mostMeal_41 (lv_at hl 5 rfl) ?_
        exact w_X12_mostMeal_43 C _ hk6 _ _ _ _ _ _ _ _ _ hw (lv_sub hl [1, 2, 3, 4, 6] rfl) h
      · replace h := ie_at h c_7
        refine lv_iload hx hb dX12_mostMeal_36 (lv_at hl 0 rfl) ?_
        refine lv_goto (tgt := 43) hx hb dX12_mostMeal_38 (by decide) ?_
        exact w_X12_mostMeal_43 C _ hk6 _ _ _ _ _ _ _ _ _ hw (lv_sub hl [1, 2, 3, 4, 6] rfl) h
set_option maxHeartbeats 4000000 in
set_option maxRecDepth 100000 in
theorem m_X12_mostMeal (l : Launch) (E : EV) (p1 : Int32) (p2 : Int32) (p3 : Int32) (σ : Mem) (rr : Int32) (τ : Mem) (h : f_X12_mostMeal p1 p2 p3 σ = some (rr, τ)) : MI TM l E yX12_mostMeal cX12_mostMeal 7 (some .int) 4 106 [.ref (E.2.1 (0)), .int p1, .int p2, .int p3] σ rr τ := by
  refine mt_start RX12 (by decide +kernel) rfl (Nat.le_of_ble_eq_true rfl) (fun p e s m args below meth c ls C hw hl => ?_)
  replace hl : lv_has ls 7 [(0, .ref (E.2.1 (0))), (1, .int p1), (2, .int p2), (3, .int p3)] := hl
  obtain ⟨hx, hb, hml, hown, hts, hK, hSt, hlk, hr⟩ := id C
  unfold f_X12_mostMeal at h
  refine lv_iconst (v := 0) hx hb dX12_mostMeal_0 (by decide) ?_
  refine lv_istore (lv' := [(4, .int (0 : Int32)), (0, .ref (E.2.1 (0))), (1, .int p1), (2, .int p2), (3, .int p3)]) hx hb dX12_mostMeal_1 hl (by decide) rfl (fun ls hl => ?_)
  refine lv_iconst (v := 0) hx hb dX12_mostMeal_3 (by decide) ?_
  refine lv_istore (lv' := [(5, .int (0 : Int32)), (4, .int (0 : Int32)), (0, .ref (E.2.1 (0))), (1, .int p1), (2, .int p2), (3, .int p3)]) hx hb dX12_mostMeal_4 hl (by decide) rfl (fun ls hl => ?_)
  exact w_X12_mostMeal_6 C _ _ _ _ _ _ _ _ _ _ hw (lv_sub hl [2, 3, 4, 5, 1, 0] rfl) h
def f_X12_judged_268 (k76 : Int32 → Int32 → Int32 → Int32 → Int32 → Int32 → Int32 → Int32 → Int32 → Int32 → Mem → Option (Int32 × Mem)) (x1 : Int32) (x4 : Int32) (x5 : Int32) (x6 : Int32) (x7 : Int32) (x9 : Int32) (x10 : Int32) (x11 : Int32) (s0 : Int32) (σ : Mem) : Option (Int32 × Mem) :=
  gd (ib x11 4800) <|
  lt (gI σ 7 x11.toNatClampNeg) fun x2_44 =>
  gd (ib x11 4800) <|
  lt (gI σ 8 x11.toNatClampNeg) fun x3_46 =>
  lt (x10 + (1 : Int32)) fun x10_47 =>
  k76 x1 x2_44 x3_46 x4 x5 x6 x7 s0 x9 x10_47 σ
def f_X12_judged_252 (k76 : Int32 → Int32 → Int32 → Int32 → Int32 → Int32 → Int32 → Int32 → Int32 → Int32 → Mem → Option (Int32 × Mem)) (x1 : Int32) (x4 : Int32) (x5 : Int32) (x6 : Int32) (x8 : Int32) (x9 : Int32) (x10 : Int32) (x11 : Int32) (x13 : Int32) (s0 : Int32) (σ : Mem) : Option (Int32 × Mem) :=
  if x13 ≤ x8 then
    (f_X12_judged_268 k76 x1 x4 x5 x6 s0 x9 x10 x11 x8 σ)
  else
    f_X12_judged_268 k76 x1 x4 x5 x6 s0 x9 x10 x11 x13 σ
def f_X12_judged_236 (k76 : Int32 → Int32 → Int32 → Int32 → Int32 → Int32 → Int32 → Int32 → Int32 → Int32 → Mem → Option (Int32 × Mem)) (x1 : Int32) (x4 : Int32) (x5 : Int32) (x7 : Int32) (x8 : Int32) (x9 : Int32) (x10 : Int32) (x11 : Int32) (x13 : Int32) (s0 : Int32) (σ : Mem) : Option (Int32 × Mem) :=
  if x13 ≤ x8 then
    (f_X12_judged_252 k76 x1 x4 x5 s0 x8 x9 x10 x11 x13 x7 σ)
  else
    f_X12_judged_252 k76 x1 x4 x5 s0 x8 x9 x10 x11 x13 x10 σ
def f_X12_judged_234 (k76 : Int32 → Int32 → Int32 → Int32 → Int32 → Int32 → Int32 → Int32 → Int32 → Int32 → Mem → Option (Int32 × Mem)) (x1 : Int32) (x4 : Int32) (x5 : Int32) (x6 : Int32) (x7 : Int32) (x8 : Int32) (x9 : Int32) (x10 : Int32) (x11 : Int32) (x13 : Int32) (σ : Mem) : Option (Int32 × Mem) :=
  f_X12_judged_236 k76 x1 x4 x5 x7 x8 x9 x10 x11 x13 x6 σ
def f_X12_judged_186 (k76 : Int32 → Int32 → Int32 → Int32 → Int32 → Int32 → Int32 → Int32 → Int32 → Int32 → Mem → Option (Int32 × Mem)) (x1 : Int32) (x2 : Int32) (x3 : Int32) (x5 : Int32) (x6 : Int32) (x7 : Int32) (x8 : Int32) (x9 : Int32) (x10 : Int32) (x11 : Int32) (x12 : Int32) (s0 : Int32) (σ : Mem) : Option (Int32 × Mem) :=
  lt (x5 + x12) fun x5_33 =>
  gd (ib ((1017 : Int32) + x10) 1055) <|
  bd (f_X12_mostMeal (gI σ 1 ((1017 : Int32) + x10).toNatClampNeg) x2 x3 σ) fun r_35 σ_36 =>
  lt (r_35 - x12) fun x13_38 =>
  if x6 = (-5 : Int32) then
    (if x13_38 ≤ 0 then
      (f_X12_judged_234 k76 x1 s0 x5_33 x6 x7 x8 x9 x10 x11 x13_38 σ_36)
    else
      f_X12_judged_236 k76 x1 s0 x5_33 x7 x8 x9 x10 x11 x13_38 x10 σ_36)
  else
    f_X12_judged_234 k76 x1 s0 x5_33 x6 x7 x8 x9 x10 x11 x13_38 σ_36
def f_X12_judged_184 (k76 : Int32 → Int32 → Int32 → Int32 → Int32 → Int32 → Int32 → Int32 → Int32 → Int32 → Mem → Option (Int32 × Mem)) (x1 : Int32) (x2 : Int32) (x3 : Int32) (x4 : Int32) (x5 : Int32) (x6 : Int32) (x7 : Int32) (x8 : Int32) (x9 : Int32) (x10 : Int32) (x11 : Int32) (x12 : Int32) (σ : Mem) : Option (Int32 × Mem) :=
  f_X12_judged_186 k76 x1 x2 x3 x5 x6 x7 x8 x9 x10 x11 x12 x4 σ
def f_X12_judged_179 (k76 : Int32 → Int32 → Int32 → Int32 → Int32 → Int32 → Int32 → Int32 → Int32 → Int32 → Mem → Option (Int32 × Mem)) (x1 : Int32) (x2 : Int32) (x3 : Int32) (x5 : Int32) (x6 : Int32) (x7 : Int32) (x8 : Int32) (x9 : Int32) (x10 : Int32) (x11 : Int32) (x12 : Int32) (σ : Mem) : Option (Int32 × Mem) :=
  f_X12_judged_186 k76 x1 x2 x3 x5 x6 x7 x8 x9 x10 x11 x12 x10 σ
def f_X12_judged_155 (k76 : Int32 → Int32 → Int32 → Int32 → Int32 → Int32 → Int32 → Int32 → Int32 → Int32 → Mem → Option (Int32 × Mem)) (x1 : Int32) (x2 : Int32) (x3 : Int32) (x4 : Int32) (x5 : Int32) (x6 : Int32) (x7 : Int32) (x8 : Int32) (x9 : Int32) (x10 : Int32) (x11 : Int32) (s0 : Int32) (σ : Mem) : Option (Int32 × Mem) :=
  if x4 = (-5 : Int32) then
    (if x9 = 0 then
      (f_X12_judged_179 k76 x1 x2 x3 x5 x6 x7 x8 x9 x10 x11 s0 σ)
    else
      gd (ib x11 4800) <|
      if (gI σ 9 x11.toNatClampNeg) = 0 then
        (f_X12_judged_184 k76 x1 x2 x3 x4 x5 x6 x7 x8 x9 x10 x11 s0 σ)
      else
        f_X12_judged_179 k76 x1 x2 x3 x5 x6 x7 x8 x9 x10 x11 s0 σ)
  else
    f_X12_judged_184 k76 x1 x2 x3 x4 x5 x6 x7 x8 x9 x10 x11 s0 σ
def f_X12_judged_137 (k76 : Int32 → Int32 → Int32 → Int32 → Int32 → Int32 → Int32 → Int32 → Int32 → Int32 → Mem → Option (Int32 × Mem)) (x1 : Int32) (x2 : Int32) (x3 : Int32) (x4 : Int32) (x5 : Int32) (x6 : Int32) (x7 : Int32) (x8 : Int32) (x10 : Int32) (x11 : Int32) (s0 : Int32) (σ : Mem) : Option (Int32 × Mem) :=
  if s0 = 0 then
    (f_X12_judged_155 k76 x1 x2 x3 x4 x5 x6 x7 x8 s0 x10 x11 (0 : Int32) σ)
  else
    gd (ib x11 4800) <|
    f_X12_judged_155 k76 x1 x2 x3 x4 x5 x6 x7 x8 s0 x10 x11 (gI σ 6 x11.toNatClampNeg) σ
def f_X12_judged_292 (x1 : Int32) (x4 : Int32) (x5 : Int32) (x6 : Int32) (x7 : Int32) (σ : Mem) : Option (Int32 × Mem) :=
  if x1 = 0 then
    (some (x4, σ))
  else
    if x1 = (1 : Int32) then
      (some (x5, σ))
    else
      if x1 = (2 : Int32) then
        (some (x6, σ))
      else
        some (x7, σ)
def f_X12_judged_76 (k76 : Int32 → Int32 → Int32 → Int32 → Int32 → Int32 → Int32 → Int32 → Int32 → Int32 → Mem → Option (Int32 × Mem)) (x1 : Int32) (x2 : Int32) (x3 : Int32) (x4 : Int32) (x5 : Int32) (x6 : Int32) (x7 : Int32) (x8 : Int32) (x9 : Int32) (x10 : Int32) (σ : Mem) : Option (Int32 × Mem) :=
  if (gI σ 1 2) ≤ x10 then
    (f_X12_judged_292 x1 x4 x5 x6 x7 σ)
  else
    if x9 = 0 then
      (f_X12_judged_292 x1 x4 x5 x6 x7 σ)
    else
      gd (ib ((1017 : Int32) + x10) 1055) <|
      gd (ib ((1027 : Int32) + x10) 1055) <|
      bd (f_X12_hourPlace (gI σ 1 ((1017 : Int32) + x10).toNatClampNeg) (gI σ 1 ((1027 : Int32) + x10).toNatClampNeg) x2 x3 σ) fun r_19 σ_20 =>
      gd (ib r_19 4800) <|
      if (gI σ_20 6 r_19.toNatClampNeg) < 0 then
        (f_X12_judged_137 k76 x1 x2 x3 x4 x5 x6 x7 x8 x10 r_19 (0 : Int32) σ_20)
      else
        f_X12_judged_137 k76 x1 x2 x3 x4 x5 x6 x7 x8 x10 r_19 (1 : Int32) σ_20
def f_X12_judged (p1 : Int32) (σ : Mem) : Option (Int32 × Mem) :=
  bd (f_X12_in p1 (0 : Int32) (3 : Int32) σ) fun r_1 σ_2 =>
  if r_1 = 0 then
    (some ((-1 : Int32), σ_2))
  else
    bd (f_X12_isLed σ_2) fun r_5 σ_6 =>
    if r_5 = 0 then
      (some ((-3 : Int32), σ_6))
    else
      if (gI σ_6 1 10) = (1 : Int32) then
        (some ((-3 : Int32), σ_6))
      else
        bv (f_X12_begins σ_6) fun σ_11 =>
        lt (gI σ_11 1 7) fun x2_13 =>
        lt (gI σ_11 1 8) fun x3_14 =>
        fx11 (f_X12_judged_76) FU p1 x2_13 x3_14 (-5 : Int32) (0 : Int32) (-5 : Int32) (-5 : Int32) (0 : Int32) (1 : Int32) (0 : Int32) σ_11
set_option maxHeartbeats 4000000 in
set_option maxRecDepth 100000 in
theorem w_X12_judged_268 {p : Program} {l : Launch} {e : Env} {s : State} {m : MethodId} {args : Array Value} {below : List Frame} {meth : Method} {c : Code} {E : EV} {rr : Int32} {τ : Mem} (C : Cx E p s m args meth c cX12_judged 14 (some .int) RX12) (k76 : Int32 → Int32 → Int32 → Int32 → Int32 → Int32 → Int32 → Int32 → Int32 → Int32 → Mem → Option (Int32 × Mem)) (hk76 : ∀ (x1 : Int32) (x2 : Int32) (x3 : Int32) (x4 : Int32) (x5 : Int32) (x6 : Int32) (x7 : Int32) (x8 : Int32) (x9 : Int32) (x10 : Int32) (σ : Mem) (H : Heap) (locs : List Loc) (ls : Array Slot) (hw : Wd TM E σ s H locs) (hl : lv_has ls 14 [(0, .ref (E.2.1 (0))), (1, .int x1), (2, .int x2), (3, .int x3), (4, .int x4), (5, .int x5), (6, .int x6), (7, .int x7), (8, .int x8), (9, .int x9), (10, .int x10)]) (h : k76 x1 x2 x3 x4 x5 x6 x7 x8 x9 x10 σ = some (rr, τ)), W p l e { frames := 5, cells := 0, slots := 0, locals := 132 } s m args below meth c H locs 0 0 (MQ below (QI TM E rr τ) args s 0 0 E.2.2.1) (F0 m 76 ls [])) : ∀ (x1 : Int32) (x4 : Int32) (x5 : Int32) (x6 : Int32) (x7 : Int32) (x9 : Int32) (x10 : Int32) (x11 : Int32) (s0 : Int32) (σ : Mem) (H : Heap) (locs : List Loc) (ls : Array Slot) (hw : Wd TM E σ s H locs) (hl : lv_has ls 14 [(0, .ref (E.2.1 (0))), (1, .int x1), (4, .int x4), (5, .int x5), (6, .int x6), (7, .int x7), (9, .int x9), (10, .int x10), (11, .int x11)]) (h : f_X12_judged_268 k76 x1 x4 x5 x6 x7 x9 x10 x11 s0 σ = some (rr, τ)), W p l e { frames := 5, cells := 0, slots := 0, locals := 132 } s m args below meth c H locs 0 0 (MQ below (QI TM E rr τ) args s 0 0 E.2.2.1) (F0 m 268 ls [.int s0]) := by
  obtain ⟨hx, hb, hml, hown, hts, hK, hSt, hlk, hr⟩ := id C
  intro x1 x4 x5 x6 x7 x9 x10 x11 s0 σ H locs ls hw hl h
  unfold f_X12_judged_268 at h
  refine lv_istore (lv' := [(8, .int s0), (0, .ref (E.2.1 (0))), (1, .int x1), (4, .int x4), (5, .int x5), (6, .int x6), (7, .int x7), (9, .int x9), (10, .int x10), (11, .int x11)]) hx hb dX12_judged_268 hl (by decide) rfl (fun ls hl => ?_)
  refine lv_aload_n hx hb dX12_judged_270 rfl (lv_at hl 1 rfl) ?_
  refine gf_12_18 C hw tM_0 kw_1036 dX12_judged_271 ?_
  refine lv_iload hx hb dX12_judged_274 (lv_at hl 9 rfl) ?_
  obtain ⟨g_43, h⟩ := gd_at h
  refine q_iald C hw tM_7 g_43 dX12_judged_276 ?_
  obtain ⟨x2_44, ex2_44, h⟩ := lt_at h
  refine q_top ex2_44 ?_
  refine lv_istore_n (lv' := [(2, .int x2_44), (8, .int s0), (0, .ref (E.2.1 (0))), (1, .int x1), (4, .int x4), (5, .int x5), (6, .int x6), (7, .int x7), (9, .int x9), (10, .int x10), (11, .int x11)]) hx hb dX12_judged_277 rfl hl (by decide) rfl (fun ls hl => ?_)
  refine lv_aload_n hx hb dX12_judged_278 rfl (lv_at hl 2 rfl) ?_
  refine gf_12_19 C hw tM_0 kw_1037 dX12_judged_279 ?_
  refine lv_iload hx hb dX12_judged_282 (lv_at hl 10 rfl) ?_
  obtain ⟨g_45, h⟩ := gd_at h
  refine q_iald C hw tM_8 g_45 dX12_judged_284 ?_
  obtain ⟨x3_46, ex3_46, h⟩ := lt_at h
  refine q_top ex3_46 ?_
  refine lv_istore_n (lv' := [(3, .int x3_46), (2, .int x2_44), (8, .int s0), (0, .ref (E.2.1 (0))), (1, .int x1), (4, .int x4), (5, .int x5), (6, .int x6), (7, .int x7), (9, .int x9), (10, .int x10), (11, .int x11)]) hx hb dX12_judged_285 rfl hl (by decide) rfl (fun ls hl => ?_)
  obtain ⟨x10_47, ex10_47, h⟩ := lt_at h
  refine lv_iinc (v := x10_47) (lv' := [(10, .int x10_47), (3, .int x3_46), (2, .int x2_44), (8, .int s0), (0, .ref (E.2.1 (0))), (1, .int x1), (4, .int x4), (5, .int x5), (6, .int x6), (7, .int x7), (9, .int x9), (11, .int x11)]) hx hb dX12_judged_286 hl (k := 10) rfl (by rw [ex10_47]; rfl) (by decide) rfl (fun ls hl => ?_)
  refine lv_goto (tgt := 76) hx hb dX12_judged_289 (by decide) ?_
  exact hk76 _ _ _ _ _ _ _ _ _ _ _ _ _ _ hw (lv_sub hl [4, 5, 2, 1, 6, 7, 8, 9, 3, 10, 0] rfl) h
set_option maxHeartbeats 4000000 in
set_option maxRecDepth 100000 in
theorem w_X12_judged_252 {p : Program} {l : Launch} {e : Env} {s : State} {m : MethodId} {args : Array Value} {below : List Frame} {meth : Method} {c : Code} {E : EV} {rr : Int32} {τ : Mem} (C : Cx E p s m args meth c cX12_judged 14 (some .int) RX12) (k76 : Int32 → Int32 → Int32 → Int32 → Int32 → Int32 → Int32 → Int32 → Int32 → Int32 → Mem → Option (Int32 × Mem)) (hk76 : ∀ (x1 : Int32) (x2 : Int32) (x3 : Int32) (x4 : Int32) (x5 : Int32) (x6 : Int32) (x7 : Int32) (x8 : Int32) (x9 : Int32) (x10 : Int32) (σ : Mem) (H : Heap) (locs : List Loc) (ls : Array Slot) (hw : Wd TM E σ s H locs) (hl : lv_has ls 14 [(0, .ref (E.2.1 (0))), (1, .int x1), (2, .int x2), (3, .int x3), (4, .int x4), (5, .int x5), (6, .int x6), (7, .int x7), (8, .int x8), (9, .int x9), (10, .int x10)]) (h : k76 x1 x2 x3 x4 x5 x6 x7 x8 x9 x10 σ = some (rr, τ)), W p l e { frames := 5, cells := 0, slots := 0, locals := 132 } s m args below meth c H locs 0 0 (MQ below (QI TM E rr τ) args s 0 0 E.2.2.1) (F0 m 76 ls [])) : ∀ (x1 : Int32) (x4 : Int32) (x5 : Int32) (x6 : Int32) (x8 : Int32) (x9 : Int32) (x10 : Int32) (x11 : Int32) (x13 : Int32) (s0 : Int32) (σ : Mem) (H : Heap) (locs : List Loc) (ls : Array Slot) (hw : Wd TM E σ s H locs) (hl : lv_has ls 14 [(0, .ref (E.2.1 (0))), (1, .int x1), (4, .int x4), (5, .int x5), (6, .int x6), (8, .int x8), (9, .int x9), (10, .int x10), (11, .int x11), (13, .int x13)]) (h : f_X12_judged_252 k76 x1 x4 x5 x6 x8 x9 x10 x11 x13 s0 σ = some (rr, τ)), W p l e { frames := 5, cells := 0, slots := 0, locals := 132 } s m args below meth c H locs 0 0 (MQ below (QI TM E rr τ) args s 0 0 E.2.2.1) (F0 m 252 ls [.int s0]) := by
  obtain ⟨hx, hb, hml, hown, hts, hK, hSt, hlk, hr⟩ := id C
  intro x1 x4 x5 x6 x8 x9 x10 x11 x13 s0 σ H locs ls hw hl h
  unfold f_X12_judged_252 at h
  refine lv_istore (lv' := [(7, .int s0), (0, .ref (E.2.1 (0))), (1, .int x1), (4, .int x4), (5, .int x5), (6, .int x6), (8, .int x8), (9, .int x9), (10, .int x10), (11, .int x11), (13, .int x13)]) hx hb dX12_judged_252 hl (by decide) rfl (fun ls hl => ?_)
  refine lv_iload hx hb dX12_judged_254 (lv_at hl 10 rfl) ?_
  refine lv_iload hx hb dX12_judged_256 (lv_at hl 6 rfl) ?_
  refine lv_icmp_le (tgt := 266) hx hb dX12_judged_258 (by decide) (fun c_42 => ?_) (fun c_42 => ?_)
  · replace h := it_at h c_42
    refine lv_iload hx hb dX12_judged_266 (lv_at hl 6 rfl) ?_
    exact w_X12_judged_268 C _ hk76 _ _ _ _ _ _ _ _ _ _ _ _ _ hw (lv_sub hl [1, 2, 3, 4, 5, 0, 7, 8, 9] rfl) h
  · replace h := ie_at h c_42
    refine lv_iload hx hb dX12_judged_261 (lv_at hl 10 rfl) ?_
    refine lv_goto (tgt := 268) hx hb dX12_judged_263 (by decide) ?_
    exact w_X12_judged_268 C _ hk76 _ _ _ _ _ _ _ _ _ _ _ _ _ hw (lv_sub hl [1, 2, 3, 4, 5, 0, 7, 8, 9] rfl) h
set_option maxHeartbeats 4000000 in
set_option maxRecDepth 100000 in
theorem w_X12_judged_236 {p : Program} {l : Launch} {e : Env} {s : State} {m : MethodId} {args : Array Value} {below : List Frame} {meth : Method} {c : Code} {E : EV} {rr : Int32} {τ : Mem} (C : Cx E p s m args meth c cX12_judged 14 (some .int) RX12) (k76 : Int32 → Int32 → Int32 → Int32 → Int32 → Int32 → Int32 → Int32 → Int32 → Int32 → Mem → Option (Int32 × Mem)) (hk76 : ∀ (x1 : Int32) (x2 : Int32) (x3 : Int32) (x4 : Int32) (x5 : Int32) (x6 : Int32) (x7 : Int32) (x8 : Int32) (x9 : Int32) (x10 : Int32) (σ : Mem) (H : Heap) (locs : List Loc) (ls : Array Slot) (hw : Wd TM E σ s H locs) (hl : lv_has ls 14 [(0, .ref (E.2.1 (0))), (1, .int x1), (2, .int x2), (3, .int x3), (4, .int x4), (5, .int x5), (6, .int x6), (7, .int x7), (8, .int x8), (9, .int x9), (10, .int x10)]) (h : k76 x1 x2 x3 x4 x5 x6 x7 x8 x9 x10 σ = some (rr, τ)), W p l e { frames := 5, cells := 0, slots := 0, locals := 132 } s m args below meth c H locs 0 0 (MQ below (QI TM E rr τ) args s 0 0 E.2.2.1) (F0 m 76 ls [])) : ∀ (x1 : Int32) (x4 : Int32) (x5 : Int32) (x7 : Int32) (x8 : Int32) (x9 : Int32) (x10 : Int32) (x11 : Int32) (x13 : Int32) (s0 : Int32) (σ : Mem) (H : Heap) (locs : List Loc) (ls : Array Slot) (hw : Wd TM E σ s H locs) (hl : lv_has ls 14 [(0, .ref (E.2.1 (0))), (1, .int x1), (4, .int x4), (5, .int x5), (7, .int x7), (8, .int x8), (9, .int x9), (10, .int x10), (11, .int x11), (13, .int x13)]) (h : f_X12_judged_236 k76 x1 x4 x5 x7 x8 x9 x10 x11 x13 s0 σ = some (rr, τ)), W p l e { frames := 5, cells := 0, slots := 0, locals := 132 } s m args below meth c H locs 0 0 (MQ below (QI TM E rr τ) args s 0 0 E.2.2.1) (F0 m 236 ls [.int s0]) := by
  obtain ⟨hx, hb, hml, hown, hts, hK, hSt, hlk, hr⟩ := id C
  intro x1 x4 x5 x7 x8 x9 x10 x11 x13 s0 σ H locs ls hw hl h
  unfold f_X12_judged_236 at h
  refine lv_istore (lv' := [(6, .int s0), (0, .ref (E.2.1 (0))), (1, .int x1), (4, .int x4), (5, .int x5), (7, .int x7), (8, .int x8), (9, .int x9), (10, .int x10), (11, .int x11), (13, .int x13)]) hx hb dX12_judged_236 hl (by decide) rfl (fun ls hl => ?_)
  refine lv_iload hx hb dX12_judged_238 (lv_at hl 10 rfl) ?_
  refine lv_iload hx hb dX12_judged_240 (lv_at hl 6 rfl) ?_
  refine lv_icmp_le (tgt := 250) hx hb dX12_judged_242 (by decide) (fun c_41 => ?_) (fun c_41 => ?_)
  · replace h := it_at h c_41
    refine lv_iload hx hb dX12_judged_250 (lv_at hl 5 rfl) ?_
    exact w_X12_judged_252 C _ hk76 _ _ _ _ _ _ _ _ _ _ _ _ _ _ hw (lv_sub hl [1, 2, 3, 4, 0, 6, 7, 8, 9, 10] rfl) h
  · replace h := ie_at h c_41
    refine lv_iload hx hb dX12_judged_245 (lv_at hl 8 rfl) ?_
    refine lv_goto (tgt := 252) hx hb dX12_judged_247 (by decide) ?_
    exact w_X12_judged_252 C _ hk76 _ _ _ _ _ _ _ _ _ _ _ _ _ _ hw (lv_sub hl [1, 2, 3, 4, 0, 6, 7, 8, 9, 10] rfl) h
set_option maxHeartbeats 4000000 in
set_option maxRecDepth 100000 in
theorem w_X12_judged_234 {p : Program} {l : Launch} {e : Env} {s : State} {m : MethodId} {args : Array Value} {below : List Frame} {meth : Method} {c : Code} {E : EV} {rr : Int32} {τ : Mem} (C : Cx E p s m args meth c cX12_judged 14 (some .int) RX12) (k76 : Int32 → Int32 → Int32 → Int32 → Int32 → Int32 → Int32 → Int32 → Int32 → Int32 → Mem → Option (Int32 × Mem)) (hk76 : ∀ (x1 : Int32) (x2 : Int32) (x3 : Int32) (x4 : Int32) (x5 : Int32) (x6 : Int32) (x7 : Int32) (x8 : Int32) (x9 : Int32) (x10 : Int32) (σ : Mem) (H : Heap) (locs : List Loc) (ls : Array Slot) (hw : Wd TM E σ s H locs) (hl : lv_has ls 14 [(0, .ref (E.2.1 (0))), (1, .int x1), (2, .int x2), (3, .int x3), (4, .int x4), (5, .int x5), (6, .int x6), (7, .int x7), (8, .int x8), (9, .int x9), (10, .int x10)]) (h : k76 x1 x2 x3 x4 x5 x6 x7 x8 x9 x10 σ = some (rr, τ)), W p l e { frames := 5, cells := 0, slots := 0, locals := 132 } s m args below meth c H locs 0 0 (MQ below (QI TM E rr τ) args s 0 0 E.2.2.1) (F0 m 76 ls [])) : ∀ (x1 : Int32) (x4 : Int32) (x5 : Int32) (x6 : Int32) (x7 : Int32) (x8 : Int32) (x9 : Int32) (x10 : Int32) (x11 : Int32) (x13 : Int32) (σ : Mem) (H : Heap) (locs : List Loc) (ls : Array Slot) (hw : Wd TM E σ s H locs) (hl : lv_has ls 14 [(0, .ref (E.2.1 (0))), (1, .int x1), (4, .int x4), (5, .int x5), (6, .int x6), (7, .int x7), (8, .int x8), (9, .int x9), (10, .int x10), (11, .int x11), (13, .int x13)]) (h : f_X12_judged_234 k76 x1 x4 x5 x6 x7 x8 x9 x10 x11 x13 σ = some (rr, τ)), W p l e { frames := 5, cells := 0, slots := 0, locals := 132 } s m args below meth c H locs 0 0 (MQ below (QI TM E rr τ) args s 0 0 E.2.2.1) (F0 m 234 ls []) := by
  obtain ⟨hx, hb, hml, hown, hts, hK, hSt, hlk, hr⟩ := id C
  intro x1 x4 x5 x6 x7 x8 x9 x10 x11 x13 σ H locs ls hw hl h
  unfold f_X12_judged_234 at h
  refine lv_iload hx hb dX12_judged_234 (lv_at hl 4 rfl) ?_
  exact w_X12_judged_236 C _ hk76 _ _ _ _ _ _ _ _ _ _ _ _ _ _ hw (lv_sub hl [0, 1, 2, 3, 5, 6, 7, 8, 9, 10] rfl) h
set_option maxHeartbeats 4000000 in
set_option maxRecDepth 100000 in
theorem w_X12_judged_186 {p : Program} {l : Launch} {e : Env} {s : State} {m : MethodId} {args : Array Value} {below : List Frame} {meth : Method} {c : Code} {E : EV} {rr : Int32} {τ : Mem} (C : Cx E p s m args meth c cX12_judged 14 (some .int) RX12) (k76 : Int32 → Int32 → Int32 → Int32 → Int32 → Int32 → Int32 → Int32 → Int32 → Int32 → Mem → Option (Int32 × Mem)) (hk76 : ∀ (x1 : Int32) (x2 : Int32) (x3 : Int32) (x4 : Int32) (x5 : Int32) (x6 : Int32) (x7 : Int32) (x8 : Int32) (x9 : Int32) (x10 : Int32) (σ : Mem) (H : Heap) (locs : List Loc) (ls : Array Slot) (hw : Wd TM E σ s H locs) (hl : lv_has ls 14 [(0, .ref (E.2.1 (0))), (1, .int x1), (2, .int x2), (3, .int x3), (4, .int x4), (5, .int x5), (6, .int x6), (7, .int x7), (8, .int x8), (9, .int x9), (10, .int x10)]) (h : k76 x1 x2 x3 x4 x5 x6 x7 x8 x9 x10 σ = some (rr, τ)), W p l e { frames := 5, cells := 0, slots := 0, locals := 132 } s m args below meth c H locs 0 0 (MQ below (QI TM E rr τ) args s 0 0 E.2.2.1) (F0 m 76 ls [])) : ∀ (x1 : Int32) (x2 : Int32) (x3 : Int32) (x5 : Int32) (x6 : Int32) (x7 : Int32) (x8 : Int32) (x9 : Int32) (x10 : Int32) (x11 : Int32) (x12 : Int32) (s0 : Int32) (σ : Mem) (H : Heap) (locs : List Loc) (ls : Array Slot) (hw : Wd TM E σ s H locs) (hl : lv_has ls 14 [(0, .ref (E.2.1 (0))), (1, .int x1), (2, .int x2), (3, .int x3), (5, .int x5), (6, .int x6), (7, .int x7), (8, .int x8), (9, .int x9), (10, .int x10), (11, .int x11), (12, .int x12)]) (h : f_X12_judged_186 k76 x1 x2 x3 x5 x6 x7 x8 x9 x10 x11 x12 s0 σ = some (rr, τ)), W p l e { frames := 5, cells := 0, slots := 0, locals := 132 } s m args below meth c H locs 0 0 (MQ below (QI TM E rr τ) args s 0 0 E.2.2.1) (F0 m 186 ls [.int s0]) := by
  obtain ⟨hx, hb, hml, hown, hts, hK, hSt, hlk, hr⟩ := id C
  intro x1 x2 x3 x5 x6 x7 x8 x9 x10 x11 x12 s0 σ H locs ls hw hl h
  unfold f_X12_judged_186 at h
  refine lv_istore (lv' := [(4, .int s0), (0, .ref (E.2.1 (0))), (1, .int x1), (2, .int x2), (3, .int x3), (5, .int x5), (6, .int x6), (7, .int x7), (8, .int x8), (9, .int x9), (10, .int x10), (11, .int x11), (12, .int x12)]) hx hb dX12_judged_186 hl (by decide) rfl (fun ls hl => ?_)
  refine lv_iload hx hb dX12_judged_188 (lv_at hl 5 rfl) ?_
  refine lv_iload hx hb dX12_judged_190 (lv_at hl 12 rfl) ?_
  refine lv_iadd hx hb dX12_judged_192 ?_
  obtain ⟨x5_33, ex5_33, h⟩ := lt_at h
  refine q_top ex5_33 ?_
  refine lv_istore (lv' := [(5, .int x5_33), (4, .int s0), (0, .ref (E.2.1 (0))), (1, .int x1), (2, .int x2), (3, .int x3), (6, .int x6), (7, .int x7), (8, .int x8), (9, .int x9), (10, .int x10), (11, .int x11), (12, .int x12)]) hx hb dX12_judged_193 hl (by decide) rfl (fun ls hl => ?_)
  refine lv_aload_n hx hb dX12_judged_195 rfl (lv_at hl 2 rfl) ?_
  refine lv_aload_n hx hb dX12_judged_196 rfl (lv_at hl 2 rfl) ?_
  refine gf_12_1 C hw tM_0 kw_1019 dX12_judged_197 ?_
  refine lv_sipush (v := 1017) hx hb dX12_judged_200 (by decide) ?_
  refine lv_iload hx hb dX12_judged_203 (lv_at hl 10 rfl) ?_
  refine lv_iadd hx hb dX12_judged_205 ?_
  obtain ⟨g_34, h⟩ := gd_at h
  refine q_iald C hw tM_1 g_34 dX12_judged_206 ?_
  refine lv_iload_n hx hb dX12_judged_207 rfl (lv_at hl 4 rfl) ?_
  refine lv_iload_n hx hb dX12_judged_208 rfl (lv_at hl 5 rfl) ?_
  obtain ⟨r_35, σ_36, h_37, h⟩ := bd_at h
  refine q_afterI hw (q_runV C hw hl.1 (As := [.int (gI σ 1 ((1017 : Int32) + x10).toNatClampNeg), .int x2, .int x3]) (rest := []) (m_X12_mostMeal l E (gI σ 1 ((1017 : Int32) + x10).toNatClampNeg) x2 x3 σ r_35 σ_36 h_37) yq_X12_mostMeal tM_0 rfl rfl kw_1346 ⟨Nat.le_of_ble_eq_true rfl, Nat.le_of_ble_eq_true rfl⟩ rfl (Nat.le_of_ble_eq_true rfl) ⟨Nat.zero_le _, Nat.zero_le _⟩ dX12_judged_209) (fun H locs hw => ?_)
  refine lv_iload hx hb dX12_judged_212 (lv_at hl 12 rfl) ?_
  refine lv_isub hx hb dX12_judged_214 ?_
  obtain ⟨x13_38, ex13_38, h⟩ := lt_at h
  refine q_top ex13_38 ?_
  refine lv_istore (lv' := [(13, .int x13_38), (5, .int x5_33), (4, .int s0), (0, .ref (E.2.1 (0))), (1, .int x1), (2, .int x2), (3, .int x3), (6, .int x6), (7, .int x7), (8, .int x8), (9, .int x9), (10, .int x10), (11, .int x11), (12, .int x12)]) hx hb dX12_judged_215 hl (by decide) rfl (fun ls hl => ?_)
  refine lv_iload hx hb dX12_judged_217 (lv_at hl 7 rfl) ?_
  refine lv_bipush (v := (-5)) hx hb dX12_judged_219 (by decide) ?_
  refine lv_icmp_ne (tgt := 234) hx hb dX12_judged_221 (by decide) (fun c_39 => ?_) (fun c_39 => ?_)
  · replace h := ie_at h c_39
    exact w_X12_judged_234 C _ hk76 _ _ _ _ _ _ _ _ _ _ _ _ _ _ hw (lv_sub hl [3, 4, 2, 1, 7, 8, 9, 10, 11, 12, 0] rfl) h
  · replace h := it_at h c_39
    refine lv_iload hx hb dX12_judged_224 (lv_at hl 0 rfl) ?_
    refine lv_if_le (tgt := 234) hx hb dX12_judged_226 (by decide) (fun c_40 => ?_) (fun c_40 => ?_)
    · replace h := it_at h c_40
      exact w_X12_judged_234 C _ hk76 _ _ _ _ _ _ _ _ _ _ _ _ _ _ hw (lv_sub hl [3, 4, 2, 1, 7, 8, 9, 10, 11, 12, 0] rfl) h
    · replace h := ie_at h c_40
      refine lv_iload hx hb dX12_judged_229 (lv_at hl 11 rfl) ?_
      refine lv_goto (tgt := 236) hx hb dX12_judged_231 (by decide) ?_
      exact w_X12_judged_236 C _ hk76 _ _ _ _ _ _ _ _ _ _ _ _ _ _ hw (lv_sub hl [3, 4, 2, 1, 8, 9, 10, 11, 12, 0] rfl) h
set_option maxHeartbeats 4000000 in
set_option maxRecDepth 100000 in
theorem w_X12_judged_184 {p : Program} {l : Launch} {e : Env} {s : State} {m : MethodId} {args : Array Value} {below : List Frame} {meth : Method} {c : Code} {E : EV} {rr : Int32} {τ : Mem} (C : Cx E p s m args meth c cX12_judged 14 (some .int) RX12) (k76 : Int32 → Int32 → Int32 → Int32 → Int32 → Int32 → Int32 → Int32 → Int32 → Int32 → Mem → Option (Int32 × Mem)) (hk76 : ∀ (x1 : Int32) (x2 : Int32) (x3 : Int32) (x4 : Int32) (x5 : Int32) (x6 : Int32) (x7 : Int32) (x8 : Int32) (x9 : Int32) (x10 : Int32) (σ : Mem) (H : Heap) (locs : List Loc) (ls : Array Slot) (hw : Wd TM E σ s H locs) (hl : lv_has ls 14 [(0, .ref (E.2.1 (0))), (1, .int x1), (2, .int x2), (3, .int x3), (4, .int x4), (5, .int x5), (6, .int x6), (7, .int x7), (8, .int x8), (9, .int x9), (10, .int x10)]) (h : k76 x1 x2 x3 x4 x5 x6 x7 x8 x9 x10 σ = some (rr, τ)), W p l e { frames := 5, cells := 0, slots := 0, locals := 132 } s m args below meth c H locs 0 0 (MQ below (QI TM E rr τ) args s 0 0 E.2.2.1) (F0 m 76 ls [])) : ∀ (x1 : Int32) (x2 : Int32) (x3 : Int32) (x4 : Int32) (x5 : Int32) (x6 : Int32) (x7 : Int32) (x8 : Int32) (x9 : Int32) (x10 : Int32) (x11 : Int32) (x12 : Int32) (σ : Mem) (H : Heap) (locs : List Loc) (ls : Array Slot) (hw : Wd TM E σ s H locs) (hl : lv_has ls 14 [(0, .ref (E.2.1 (0))), (1, .int x1), (2, .int x2), (3, .int x3), (4, .int x4), (5, .int x5), (6, .int x6), (7, .int x7), (8, .int x8), (9, .int x9), (10, .int x10), (11, .int x11), (12, .int x12)]) (h : f_X12_judged_184 k76 x1 x2 x3 x4 x5 x6 x7 x8 x9 x10 x11 x12 σ = some (rr, τ)), W p l e { frames := 5, cells := 0, slots := 0, locals := 132 } s m args below meth c H locs 0 0 (MQ below (QI TM E rr τ) args s 0 0 E.2.2.1) (F0 m 184 ls []) := by
  obtain ⟨hx, hb, hml, hown, hts, hK, hSt, hlk, hr⟩ := id C
  intro x1 x2 x3 x4 x5 x6 x7 x8 x9 x10 x11 x12 σ H locs ls hw hl h
  unfold f_X12_judged_184 at h
  refine lv_iload hx hb dX12_judged_184 (lv_at hl 4 rfl) ?_
  exact w_X12_judged_186 C _ hk76 _ _ _ _ _ _ _ _ _ _ _ _ _ _ _ _ hw (lv_sub hl [0, 1, 2, 3, 5, 6, 7, 8, 9, 10, 11, 12] rfl) h
set_option maxHeartbeats 4000000 in
set_option maxRecDepth 100000 in
theorem w_X12_judged_179 {p : Program} {l : Launch} {e : Env} {s : State} {m : MethodId} {args : Array Value} {below : List Frame} {meth : Method} {c : Code} {E : EV} {rr : Int32} {τ : Mem} (C : Cx E p s m args meth c cX12_judged 14 (some .int) RX12) (k76 : Int32 → Int32 → Int32 → Int32 → Int32 → Int32 → Int32 → Int32 → Int32 → Int32 → Mem → Option (Int32 × Mem)) (hk76 : ∀ (x1 : Int32) (x2 : Int32) (x3 : Int32) (x4 : Int32) (x5 : Int32) (x6 : Int32) (x7 : Int32) (x8 : Int32) (x9 : Int32) (x10 : Int32) (σ : Mem) (H : Heap) (locs : List Loc) (ls : Array Slot) (hw : Wd TM E σ s H locs) (hl : lv_has ls 14 [(0, .ref (E.2.1 (0))), (1, .int x1), (2, .int x2), (3, .int x3), (4, .int x4), (5, .int x5), (6, .int x6), (7, .int x7), (8, .int x8), (9, .int x9), (10, .int x10)]) (h : k76 x1 x2 x3 x4 x5 x6 x7 x8 x9 x10 σ = some (rr, τ)), W p l e { frames := 5, cells := 0, slots := 0, locals := 132 } s m args below meth c H locs 0 0 (MQ below (QI TM E rr τ) args s 0 0 E.2.2.1) (F0 m 76 ls [])) : ∀ (x1 : Int32) (x2 : Int32) (x3 : Int32) (x5 : Int32) (x6 : Int32) (x7 : Int32) (x8 : Int32) (x9 : Int32) (x10 : Int32) (x11 : Int32) (x12 : Int32) (σ : Mem) (H : Heap) (locs : List Loc) (ls : Array Slot) (hw : Wd TM E σ s H locs) (hl : lv_has ls 14 [(0, .ref (E.2.1 (0))), (1, .int x1), (2, .int x2), (3, .int x3), (5, .int x5), (6, .int x6), (7, .int x7), (8, .int x8), (9, .int x9), (10, .int x10), (11, .int x11), (12, .int x12)]) (h : f_X12_judged_179 k76 x1 x2 x3 x5 x6 x7 x8 x9 x10 x11 x12 σ = some (rr, τ)), W p l e { frames := 5, cells := 0, slots := 0, locals := 132 } s m args below meth c H locs 0 0 (MQ below (QI TM E rr τ) args s 0 0 E.2.2.1) (F0 m 179 ls []) := by
  obtain ⟨hx, hb, hml, hown, hts, hK, hSt, hlk, hr⟩ := id C
  intro x1 x2 x3 x5 x6 x7 x8 x9 x10 x11 x12 σ H locs ls hw hl h
  unfold f_X12_judged_179 at h
  refine lv_iload hx hb dX12_judged_179 (lv_at hl 9 rfl) ?_
  refine lv_goto (tgt := 186) hx hb dX12_judged_181 (by decide) ?_
  exact w_X12_judged_186 C _ hk76 _ _ _ _ _ _ _ _ _ _ _ _ _ _ _ _ hw (lv_sub hl [0, 1, 2, 3, 4, 5, 6, 7, 8, 9, 10, 11] rfl) h
set_option maxHeartbeats 4000000 in
set_option maxRecDepth 100000 in
theorem w_X12_judged_155 {p : Program} {l : Launch} {e : Env} {s : State} {m : MethodId} {args : Array Value} {below : List Frame} {meth : Method} {c : Code} {E : EV} {rr : Int32} {τ : Mem} (C : Cx E p s m args meth c cX12_judged 14 (some .int) RX12) (k76 : Int32 → Int32 → Int32 → Int32 → Int32 → Int32 → Int32 → Int32 → Int32 → Int32 → Mem → Option (Int32 × Mem)) (hk76 : ∀ (x1 : Int32) (x2 : Int32) (x3 : Int32) (x4 : Int32) (x5 : Int32) (x6 : Int32) (x7 : Int32) (x8 : Int32) (x9 : Int32) (x10 : Int32) (σ : Mem) (H : Heap) (locs : List Loc) (ls : Array Slot) (hw : Wd TM E σ s H locs) (hl : lv_has ls 14 [(0, .ref (E.2.1 (0))), (1, .int x1), (2, .int x2), (3, .int x3), (4, .int x4), (5, .int x5), (6, .int x6), (7, .int x7), (8, .int x8), (9, .int x9), (10, .int x10)]) (h : k76 x1 x2 x3 x4 x5 x6 x7 x8 x9 x10 σ = some (rr, τ)), W p l e { frames := 5, cells := 0, slots := 0, locals := 132 } s m args below meth c H locs 0 0 (MQ below (QI TM E rr τ) args s 0 0 E.2.2.1) (F0 m 76 ls [])) : ∀ (x1 : Int32) (x2 : Int32) (x3 : Int32) (x4 : Int32) (x5 : Int32) (x6 : Int32) (x7 : Int32) (x8 : Int32) (x9 : Int32) (x10 : Int32) (x11 : Int32) (s0 : Int32) (σ : Mem) (H : Heap) (locs : List Loc) (ls : Array Slot) (hw : Wd TM E σ s H locs) (hl : lv_has ls 14 [(0, .ref (E.2.1 (0))), (1, .int x1), (2, .int x2), (3, .int x3), (4, .int x4), (5, .int x5), (6, .int x6), (7, .int x7), (8, .int x8), (9, .int x9), (10, .int x10), (11, .int x11)]) (h : f_X12_judged_155 k76 x1 x2 x3 x4 x5 x6 x7 x8 x9 x10 x11 s0 σ = some (rr, τ)), W p l e { frames := 5, cells := 0, slots := 0, locals := 132 } s m args below meth c H locs 0 0 (MQ below (QI TM E rr τ) args s 0 0 E.2.2.1) (F0 m 155 ls [.int s0]) := by
  obtain ⟨hx, hb, hml, hown, hts, hK, hSt, hlk, hr⟩ := id C
  intro x1 x2 x3 x4 x5 x6 x7 x8 x9 x10 x11 s0 σ H locs ls hw hl h
  unfold f_X12_judged_155 at h
  refine lv_istore (lv' := [(12, .int s0), (0, .ref (E.2.1 (0))), (1, .int x1), (2, .int x2), (3, .int x3), (4, .int x4), (5, .int x5), (6, .int x6), (7, .int x7), (8, .int x8), (9, .int x9), (10, .int x10), (11, .int x11)]) hx hb dX12_judged_155 hl (by decide) rfl (fun ls hl => ?_)
  refine lv_iload hx hb dX12_judged_157 (lv_at hl 5 rfl) ?_
  refine lv_bipush (v := (-5)) hx hb dX12_judged_159 (by decide) ?_
  refine lv_icmp_ne (tgt := 184) hx hb dX12_judged_161 (by decide) (fun c_29 => ?_) (fun c_29 => ?_)
  · replace h := ie_at h c_29
    exact w_X12_judged_184 C _ hk76 _ _ _ _ _ _ _ _ _ _ _ _ _ _ _ _ hw (lv_sub hl [1, 2, 3, 4, 5, 6, 7, 8, 9, 10, 11, 12, 0] rfl) h
  · replace h := it_at h c_29
    refine lv_iload hx hb dX12_judged_164 (lv_at hl 10 rfl) ?_
    refine lv_if_eq (tgt := 179) hx hb dX12_judged_166 (by decide) (fun c_30 => ?_) (fun c_30 => ?_)
    · replace h := it_at h c_30
      exact w_X12_judged_179 C _ hk76 _ _ _ _ _ _ _ _ _ _ _ _ _ _ _ hw (lv_sub hl [1, 2, 3, 4, 6, 7, 8, 9, 10, 11, 12, 0] rfl) h
    · replace h := ie_at h c_30
      refine lv_aload_n hx hb dX12_judged_169 rfl (lv_at hl 1 rfl) ?_
      refine gf_12_20 C hw tM_0 kw_1038 dX12_judged_170 ?_
      refine lv_iload hx hb dX12_judged_173 (lv_at hl 12 rfl) ?_
      obtain ⟨g_31, h⟩ := gd_at h
      refine q_zald C hw tM_9 g_31 dX12_judged_175 ?_
      refine lv_if_eq (tgt := 184) hx hb dX12_judged_176 (by decide) (fun c_32 => ?_) (fun c_32 => ?_)
      · replace h := it_at h c_32
        exact w_X12_judged_184 C _ hk76 _ _ _ _ _ _ _ _ _ _ _ _ _ _ _ _ hw (lv_sub hl [1, 2, 3, 4, 5, 6, 7, 8, 9, 10, 11, 12, 0] rfl) h
      · replace h := ie_at h c_32
        exact w_X12_judged_179 C _ hk76 _ _ _ _ _ _ _ _ _ _ _ _ _ _ _ hw (lv_sub hl [1, 2, 3, 4, 6, 7, 8, 9, 10, 11, 12, 0] rfl) h
set_option maxHeartbeats 4000000 in
set_option maxRecDepth 100000 in
theorem w_X12_judged_137 {p : Program} {l : Launch} {e : Env} {s : State} {m : MethodId} {args : Array Value} {below : List Frame} {meth : Method} {c : Code} {E : EV} {rr : Int32} {τ : Mem} (C : Cx E p s m args meth c cX12_judged 14 (some .int) RX12) (k76 : Int32 → Int32 → Int32 → Int32 → Int32 → Int32 → Int32 → Int32 → Int32 → Int32 → Mem → Option (Int32 × Mem)) (hk76 : ∀ (x1 : Int32) (x2 : Int32) (x3 : Int32) (x4 : Int32) (x5 : Int32) (x6 : Int32) (x7 : Int32) (x8 : Int32) (x9 : Int32) (x10 : Int32) (σ : Mem) (H : Heap) (locs : List Loc) (ls : Array Slot) (hw : Wd TM E σ s H locs) (hl : lv_has ls 14 [(0, .ref (E.2.1 (0))), (1, .int x1), (2, .int x2), (3, .int x3), (4, .int x4), (5, .int x5), (6, .int x6), (7, .int x7), (8, .int x8), (9, .int x9), (10, .int x10)]) (h : k76 x1 x2 x3 x4 x5 x6 x7 x8 x9 x10 σ = some (rr, τ)), W p l e { frames := 5, cells := 0, slots := 0, locals := 132 } s m args below meth c H locs 0 0 (MQ below (QI TM E rr τ) args s 0 0 E.2.2.1) (F0 m 76 ls [])) : ∀ (x1 : Int32) (x2 : Int32) (x3 : Int32) (x4 : Int32) (x5 : Int32) (x6 : Int32) (x7 : Int32) (x8 : Int32) (x10 : Int32) (x11 : Int32) (s0 : Int32) (σ : Mem) (H : Heap) (locs : List Loc) (ls : Array Slot) (hw : Wd TM E σ s H locs) (hl : lv_has ls 14 [(0, .ref (E.2.1 (0))), (1, .int x1), (2, .int x2), (3, .int x3), (4, .int x4), (5, .int x5), (6, .int x6), (7, .int x7), (8, .int x8), (10, .int x10), (11, .int x11)]) (h : f_X12_judged_137 k76 x1 x2 x3 x4 x5 x6 x7 x8 x10 x11 s0 σ = some (rr, τ)), W p l e { frames := 5, cells := 0, slots := 0, locals := 132 } s m args below meth c H locs 0 0 (MQ below (QI TM E rr τ) args s 0 0 E.2.2.1) (F0 m 137 ls [.int s0]) := by
  obtain ⟨hx, hb, hml, hown, hts, hK, hSt, hlk, hr⟩ := id C
  intro x1 x2 x3 x4 x5 x6 x7 x8 x10 x11 s0 σ H locs ls hw hl h
  unfold f_X12_judged_137 at h
  refine lv_istore (lv' := [(9, .int s0), (0, .ref (E.2.1 (0))), (1, .int x1), (2, .int x2), (3, .int x3), (4, .int x4), (5, .int x5), (6, .int x6), (7, .int x7), (8, .int x8), (10, .int x10), (11, .int x11)]) hx hb dX12_judged_137 hl (by decide) rfl (fun ls hl => ?_)
  refine lv_iload hx hb dX12_judged_139 (lv_at hl 0 rfl) ?_
  refine lv_if_eq (tgt := 154) hx hb dX12_judged_141 (by decide) (fun c_27 => ?_) (fun c_27 => ?_)
  · replace h := it_at h c_27
    refine lv_iconst (v := 0) hx hb dX12_judged_154 (by decide) ?_
    exact w_X12_judged_155 C _ hk76 _ _ _ _ _ _ _ _ _ _ _ _ _ _ _ _ hw (lv_sub hl [1, 2, 3, 4, 5, 6, 7, 8, 9, 0, 10, 11] rfl) h
  · replace h := ie_at h c_27
    refine lv_aload_n hx hb dX12_judged_144 rfl (lv_at hl 1 rfl) ?_
    refine gf_12_17 C hw tM_0 kw_1035 dX12_judged_145 ?_
    refine lv_iload hx hb dX12_judged_148 (lv_at hl 11 rfl) ?_
    obtain ⟨g_28, h⟩ := gd_at h
    refine q_iald C hw tM_6 g_28 dX12_judged_150 ?_
    refine lv_goto (tgt := 155) hx hb dX12_judged_151 (by decide) ?_
    exact w_X12_judged_155 C _ hk76 _ _ _ _ _ _ _ _ _ _ _ _ _ _ _ _ hw (lv_sub hl [1, 2, 3, 4, 5, 6, 7, 8, 9, 0, 10, 11] rfl) h
set_option maxHeartbeats 4000000 in
set_option maxRecDepth 100000 in
theorem w_X12_judged_292 {p : Program} {l : Launch} {e : Env} {s : State} {m : MethodId} {args : Array Value} {below : List Frame} {meth : Method} {c : Code} {E : EV} {rr : Int32} {τ : Mem} (C : Cx E p s m args meth c cX12_judged 14 (some .int) RX12) : ∀ (x1 : Int32) (x4 : Int32) (x5 : Int32) (x6 : Int32) (x7 : Int32) (σ : Mem) (H : Heap) (locs : List Loc) (ls : Array Slot) (hw : Wd TM E σ s H locs) (hl : lv_has ls 14 [(0, .ref (E.2.1 (0))), (1, .int x1), (4, .int x4), (5, .int x5), (6, .int x6), (7, .int x7)]) (h : f_X12_judged_292 x1 x4 x5 x6 x7 σ = some (rr, τ)), W p l e { frames := 5, cells := 0, slots := 0, locals := 132 } s m args below meth c H locs 0 0 (MQ below (QI TM E rr τ) args s 0 0 E.2.2.1) (F0 m 292 ls []) := by
  obtain ⟨hx, hb, hml, hown, hts, hK, hSt, hlk, hr⟩ := id C
  intro x1 x4 x5 x6 x7 σ H locs ls hw hl h
  unfold f_X12_judged_292 at h
  refine lv_iload_n hx hb dX12_judged_292 rfl (lv_at hl 1 rfl) ?_
  refine lv_if_ne (tgt := 301) hx hb dX12_judged_293 (by decide) (fun c_24 => ?_) (fun c_24 => ?_)
  · replace h := ie_at h c_24
    refine lv_iload_n hx hb dX12_judged_301 rfl (lv_at hl 1 rfl) ?_
    refine lv_iconst (v := 1) hx hb dX12_judged_302 (by decide) ?_
    refine lv_icmp_ne (tgt := 311) hx hb dX12_judged_303 (by decide) (fun c_25 => ?_) (fun c_25 => ?_)
    · replace h := ie_at h c_25
      refine lv_iload_n hx hb dX12_judged_311 rfl (lv_at hl 1 rfl) ?_
      refine lv_iconst (v := 2) hx hb dX12_judged_312 (by decide) ?_
      refine lv_icmp_ne (tgt := 321) hx hb dX12_judged_313 (by decide) (fun c_26 => ?_) (fun c_26 => ?_)
      · replace h := ie_at h c_26
        refine lv_iload hx hb dX12_judged_321 (lv_at hl 5 rfl) ?_
        obtain ⟨rfl, rfl⟩ := ret_at h
        exact q_iret C hw dX12_judged_323
      · replace h := it_at h c_26
        refine lv_iload hx hb dX12_judged_316 (lv_at hl 4 rfl) ?_
        refine lv_goto (tgt := 323) hx hb dX12_judged_318 (by decide) ?_
        obtain ⟨rfl, rfl⟩ := ret_at h
        exact q_iret C hw dX12_judged_323
    · replace h := it_at h c_25
      refine lv_iload hx hb dX12_judged_306 (lv_at hl 3 rfl) ?_
      refine lv_goto (tgt := 323) hx hb dX12_judged_308 (by decide) ?_
      obtain ⟨rfl, rfl⟩ := ret_at h
      exact q_iret C hw dX12_judged_323
  · replace h := it_at h c_24
    refine lv_iload hx hb dX12_judged_296 (lv_at hl 2 rfl) ?_
    refine lv_goto (tgt := 323) hx hb dX12_judged_298 (by decide) ?_
    obtain ⟨rfl, rfl⟩ := ret_at h
    exact q_iret C hw dX12_judged_323
set_option maxHeartbeats 4000000 in
set_option maxRecDepth 100000 in
theorem w_X12_judged_76 {p : Program} {l : Launch} {e : Env} {s : State} {m : MethodId} {args : Array Value} {below : List Frame} {meth : Method} {c : Code} {E : EV} {rr : Int32} {τ : Mem} (C : Cx E p s m args meth c cX12_judged 14 (some .int) RX12) : ∀ (n : Nat) (x1 : Int32) (x2 : Int32) (x3 : Int32) (x4 : Int32) (x5 : Int32) (x6 : Int32) (x7 : Int32) (x8 : Int32) (x9 : Int32) (x10 : Int32) (σ : Mem) (H : Heap) (locs : List Loc) (ls : Array Slot) (hw : Wd TM E σ s H locs) (hl : lv_has ls 14 [(0, .ref (E.2.1 (0))), (1, .int x1), (2, .int x2), (3, .int x3), (4, .int x4), (5, .int x5), (6, .int x6), (7, .int x7), (8, .int x8), (9, .int x9), (10, .int x10)]) (h : fx11 (f_X12_judged_76) n x1 x2 x3 x4 x5 x6 x7 x8 x9 x10 σ = some (rr, τ)), W p l e { frames := 5, cells := 0, slots := 0, locals := 132 } s m args below meth c H locs 0 0 (MQ below (QI TM E rr τ) args s 0 0 E.2.2.1) (F0 m 76 ls []) := by
  obtain ⟨hx, hb, hml, hown, hts, hK, hSt, hlk, hr⟩ := id C
  intro n
  induction n with
  | zero =>
    intro x1 x2 x3 x4 x5 x6 x7 x8 x9 x10 σ H locs ls hw hl h
    have h : none = some (rr, τ) := h
    cases h
  | succ n hk76 =>
    intro x1 x2 x3 x4 x5 x6 x7 x8 x9 x10 σ H locs ls hw hl h
    replace h : f_X12_judged_76 (fx11 (f_X12_judged_76) n) x1 x2 x3 x4 x5 x6 x7 x8 x9 x10 σ = some (rr, τ) := h
    unfold f_X12_judged_76 at h
    refine lv_iload hx hb dX12_judged_76 (lv_at hl 10 rfl) ?_
    refine lv_aload_n hx hb dX12_judged_78 rfl (lv_at hl 0 rfl) ?_
    refine gf_12_1 C hw tM_0 kw_1019 dX12_judged_79 ?_
    refine lv_iconst (v := 2) hx hb dX12_judged_82 (by decide) ?_
    refine q_ialdk C hw tM_1 (k := 2) (by rfl) (by decide) (by decide) dX12_judged_83 ?_
    refine lv_icmp_ge (tgt := 292) hx hb dX12_judged_84 (by decide) (fun c_15 => ?_) (fun c_15 => ?_)
    · replace h := it_at h c_15
      exact w_X12_judged_292 C _ _ _ _ _ _ _ _ _ hw (lv_sub hl [0, 1, 4, 5, 6, 7] rfl) h
    · replace h := ie_at h c_15
      refine lv_iload hx hb dX12_judged_87 (lv_at hl 9 rfl) ?_
      refine lv_if_eq (tgt := 292) hx hb dX12_judged_89 (by decide) (fun c_16 => ?_) (fun c_16 => ?_)
      · replace h := it_at h c_16
        exact w_X12_judged_292 C _ _ _ _ _ _ _ _ _ hw (lv_sub hl [0, 1, 4, 5, 6, 7] rfl) h
      · replace h := ie_at h c_16
        refine lv_aload_n hx hb dX12_judged_92 rfl (lv_at hl 0 rfl) ?_
        refine lv_aload_n hx hb dX12_judged_93 rfl (lv_at hl 0 rfl) ?_
        refine gf_12_1 C hw tM_0 kw_1019 dX12_judged_94 ?_
        refine lv_sipush (v := 1017) hx hb dX12_judged_97 (by decide) ?_
        refine lv_iload hx hb dX12_judged_100 (lv_at hl 10 rfl) ?_
        refine lv_iadd hx hb dX12_judged_102 ?_
        obtain ⟨g_17, h⟩ := gd_at h
        refine q_iald C hw tM_1 g_17 dX12_judged_103 ?_
        refine lv_aload_n hx hb dX12_judged_104 rfl (lv_at hl 0 rfl) ?_
        refine gf_12_1 C hw tM_0 kw_1019 dX12_judged_105 ?_
        refine lv_sipush (v := 1027) hx hb dX12_judged_108 (by decide) ?_
        refine lv_iload hx hb dX12_judged_111 (lv_at hl 10 rfl) ?_
        refine lv_iadd hx hb dX12_judged_113 ?_
        obtain ⟨g_18, h⟩ := gd_at h
        refine q_iald C hw tM_1 g_18 dX12_judged_114 ?_
        refine lv_iload_n hx hb dX12_judged_115 rfl (lv_at hl 2 rfl) ?_
        refine lv_iload_n hx hb dX12_judged_116 rfl (lv_at hl 3 rfl) ?_
        obtain ⟨r_19, σ_20, h_21, h⟩ := bd_at h
        refine q_afterI hw (q_runV C hw hl.1 (As := [.int (gI σ 1 ((1017 : Int32) + x10).toNatClampNeg), .int (gI σ 1 ((1027 : Int32) + x10).toNatClampNeg), .int x2, .int x3]) (rest := []) (m_X12_hourPlace l E (gI σ 1 ((1017 : Int32) + x10).toNatClampNeg) (gI σ 1 ((1027 : Int32) + x10).toNatClampNeg) x2 x3 σ r_19 σ_20 h_21) yq_X12_hourPlace tM_0 rfl rfl kw_1287 ⟨Nat.le_of_ble_eq_true rfl, Nat.le_of_ble_eq_true rfl⟩ rfl (Nat.le_of_ble_eq_true rfl) ⟨Nat.zero_le _, Nat.zero_le _⟩ dX12_judged_117) (fun H locs hw => ?_)
        refine lv_istore (lv' := [(11, .int r_19), (0, .ref (E.2.1 (0))), (1, .int x1), (2, .int x2), (3, .int x3), (4, .int x4), (5, .int x5), (6, .int x6), (7, .int x7), (8, .int x8), (9, .int x9), (10, .int x10)]) hx hb dX12_judged_120 hl (by decide) rfl (fun ls hl => ?_)
        refine lv_aload_n hx hb dX12_judged_122 rfl (lv_at hl 1 rfl) ?_
        refine gf_12_17 C hw tM_0 kw_1035 dX12_judged_123 ?_
        refine lv_iload hx hb dX12_judged_126 (lv_at hl 0 rfl) ?_
        obtain ⟨g_22, h⟩ := gd_at h
        refine q_iald C hw tM_6 g_22 dX12_judged_128 ?_
        refine lv_if_lt (tgt := 136) hx hb dX12_judged_129 (by decide) (fun c_23 => ?_) (fun c_23 => ?_)
        · replace h := it_at h c_23
          refine lv_iconst (v := 0) hx hb dX12_judged_136 (by decide) ?_
          exact w_X12_judged_137 C _ hk76 _ _ _ _ _ _ _ _ _ _ _ _ _ _ _ hw (lv_sub hl [1, 2, 3, 4, 5, 6, 7, 8, 9, 11, 0] rfl) h
        · replace h := ie_at h c_23
          refine lv_iconst (v := 1) hx hb dX12_judged_132 (by decide) ?_
          refine lv_goto (tgt := 137) hx hb dX12_judged_133 (by decide) ?_
          exact w_X12_judged_137 C _ hk76 _ _ _ _ _ _ _ _ _ _ _ _ _ _ _ hw (lv_sub hl [1, 2, 3, 4, 5, 6, 7, 8, 9, 11, 0] rfl) h
set_option maxHeartbeats 4000000 in
set_option maxRecDepth 100000 in
theorem m_X12_judged (l : Launch) (E : EV) (p1 : Int32) (σ : Mem) (rr : Int32) (τ : Mem) (h : f_X12_judged p1 σ = some (rr, τ)) : MI TM l E yX12_judged cX12_judged 14 (some .int) 5 132 [.ref (E.2.1 (0)), .int p1] σ rr τ := by
  refine mt_start RX12 (by decide +kernel) rfl (Nat.le_of_ble_eq_true rfl) (fun p e s m args below meth c ls C hw hl => ?_)
  replace hl : lv_has ls 14 [(0, .ref (E.2.1 (0))), (1, .int p1)] := hl
  obtain ⟨hx, hb, hml, hown, hts, hK, hSt, hlk, hr⟩ := id C
  unfold f_X12_judged at h
  refine lv_iload_n hx hb dX12_judged_0 rfl (lv_at hl 1 rfl) ?_
  refine lv_iconst (v := 0) hx hb dX12_judged_1 (by decide) ?_
  refine lv_iconst (v := 3) hx hb dX12_judged_2 (by decide) ?_
  obtain ⟨r_1, σ_2, h_3, h⟩ := bd_at h
  refine q_afterI hw (q_runS C hw hl.1 (As := [.int p1, .int (0 : Int32), .int (3 : Int32)]) (rest := []) (m_X12_in l E p1 (0 : Int32) (3 : Int32) σ r_1 σ_2 h_3) yq_X12_in kw_1142 ⟨Nat.le_of_ble_eq_true rfl, Nat.le_of_ble_eq_true rfl⟩ rfl (Nat.le_of_ble_eq_true rfl) ⟨Nat.zero_le _, Nat.zero_le _⟩ dX12_judged_3) (fun H locs hw => ?_)
  refine lv_if_ne (tgt := 11) hx hb dX12_judged_6 (by decide) (fun c_4 => ?_) (fun c_4 => ?_)
  · replace h := ie_at h c_4
    refine lv_aload_n hx hb dX12_judged_11 rfl (lv_at hl 0 rfl) ?_
    obtain ⟨r_5, σ_6, h_7, h⟩ := bd_at h
    refine q_afterI hw (q_runV C hw hl.1 (As := []) (rest := []) (m_X12_isLed l E  σ_2 r_5 σ_6 h_7) yq_X12_isLed tM_0 rfl rfl kw_1251 ⟨Nat.le_of_ble_eq_true rfl, Nat.le_of_ble_eq_true rfl⟩ rfl (Nat.le_of_ble_eq_true rfl) ⟨Nat.zero_le _, Nat.zero_le _⟩ dX12_judged_12) (fun H locs hw => ?_)
    refine lv_if_eq (tgt := 29) hx hb dX12_judged_15 (by decide) (fun c_8 => ?_) (fun c_8 => ?_)
    · replace h := it_at h c_8
      refine lv_bipush (v := (-3)) hx hb dX12_judged_29 (by decide) ?_
      obtain ⟨rfl, rfl⟩ := ret_at h
      exact q_iret C hw dX12_judged_31
    · replace h := ie_at h c_8
      refine lv_aload_n hx hb dX12_judged_18 rfl (lv_at hl 0 rfl) ?_
      refine gf_12_1 C hw tM_0 kw_1019 dX12_judged_19 ?_
      refine lv_bipush (v := 10) hx hb dX12_judged_22 (by decide) ?_
      refine q_ialdk C hw tM_1 (k := 10) (by rfl) (by decide) (by decide) dX12_judged_24 ?_
      refine lv_iconst (v := 1) hx hb dX12_judged_25 (by decide) ?_
      refine lv_icmp_ne (tgt := 32) hx hb dX12_judged_26 (by decide) (fun c_9 => ?_) (fun c_9 => ?_)
      · replace h := ie_at h c_9
        refine lv_aload_n hx hb dX12_judged_32 rfl (lv_at hl 0 rfl) ?_
        obtain ⟨σ_11, h_12, h⟩ := bv_at h
        refine q_afterV hw (q_runV C hw hl.1 (As := []) (rest := []) (m_X12_begins l E  σ_6 σ_11 h_12) yq_X12_begins tM_0 rfl rfl kw_1275 ⟨Nat.le_of_ble_eq_true rfl, Nat.le_of_ble_eq_true rfl⟩ rfl (Nat.le_of_ble_eq_true rfl) ⟨Nat.zero_le _, Nat.zero_le _⟩ dX12_judged_33) (fun H locs hw => ?_)
        refine lv_aload_n hx hb dX12_judged_36 rfl (lv_at hl 0 rfl) ?_
        refine gf_12_1 C hw tM_0 kw_1019 dX12_judged_37 ?_
        refine lv_bipush (v := 7) hx hb dX12_judged_40 (by decide) ?_
        refine q_ialdk C hw tM_1 (k := 7) (by rfl) (by decide) (by decide) dX12_judged_42 ?_
        obtain ⟨x2_13, ex2_13, h⟩ := lt_at h
        refine q_top ex2_13 ?_
        refine lv_istore_n (lv' := [(2, .int x2_13), (0, .ref (E.2.1 (0))), (1, .int p1)]) hx hb dX12_judged_43 rfl hl (by decide) rfl (fun ls hl => ?_)
        refine lv_aload_n hx hb dX12_judged_44 rfl (lv_at hl 1 rfl) ?_
        refine gf_12_1 C hw tM_0 kw_1019 dX12_judged_45 ?_
        refine lv_bipush (v := 8) hx hb dX12_judged_48 (by decide) ?_
        refine q_ialdk C hw tM_1 (k := 8) (by rfl) (by decide) (by decide) dX12_judged_50 ?_
        obtain ⟨x3_14, ex3_14, h⟩ := lt_at h
        refine q_top ex3_14 ?_
        refine lv_istore_n (lv' := [(3, .int x3_14), (2, .int x2_13), (0, .ref (E.2.1 (0))), (1, .int p1)]) hx hb dX12_judged_51 rfl hl (by decide) rfl (fun ls hl => ?_)
        refine lv_bipush (v := (-5)) hx hb dX12_judged_52 (by decide) ?_
        refine lv_istore (lv' := [(4, .int (-5 : Int32)), (3, .int x3_14), (2, .int x2_13), (0, .ref (E.2.1 (0))), (1, .int p1)]) hx hb dX12_judged_54 hl (by decide) rfl (fun ls hl => ?_)
        refine lv_iconst (v := 0) hx hb dX12_judged_56 (by decide) ?_
        refine lv_istore (lv' := [(5, .int (0 : Int32)), (4, .int (-5 : Int32)), (3, .int x3_14), (2, .int x2_13), (0, .ref (E.2.1 (0))), (1, .int p1)]) hx hb dX12_judged_57 hl (by decide) rfl (fun ls hl => ?_)
        refine lv_bipush (v := (-5)) hx hb dX12_judged_59 (by decide) ?_
        refine lv_istore (lv' := [(6, .int (-5 : Int32)), (5, .int (0 : Int32)), (4, .int (-5 : Int32)), (3, .int x3_14), (2, .int x2_13), (0, .ref (E.2.1 (0))), (1, .int p1)]) hx hb dX12_judged_61 hl (by decide) rfl (fun ls hl => ?_)
        refine lv_bipush (v := (-5)) hx hb dX12_judged_63 (by decide) ?_
        refine lv_istore (lv' := [(7, .int (-5 : Int32)), (6, .int (-5 : Int32)), (5, .int (0 : Int32)), (4, .int (-5 : Int32)), (3, .int x3_14), (2, .int x2_13), (0, .ref (E.2.1 (0))), (1, .int p1)]) hx hb dX12_judged_65 hl (by decide) rfl (fun ls hl => ?_)
        refine lv_iconst (v := 0) hx hb dX12_judged_67 (by decide) ?_
        refine lv_istore (lv' := [(8, .int (0 : Int32)), (7, .int (-5 : Int32)), (6, .int (-5 : Int32)), (5, .int (0 : Int32)), (4, .int (-5 : Int32)), (3, .int x3_14), (2, .int x2_13), (0, .ref (E.2.1 (0))), (1, .int p1)]) hx hb dX12_judged_68 hl (by decide) rfl (fun ls hl => ?_)
        refine lv_iconst (v := 1) hx hb dX12_judged_70 (by decide) ?_
        refine lv_istore (lv' := [(9, .int (1 : Int32)), (8, .int (0 : Int32)), (7, .int (-5 : Int32)), (6, .int (-5 : Int32)), (5, .int (0 : Int32)), (4, .int (-5 : Int32)), (3, .int x3_14), (2, .int x2_13), (0, .ref (E.2.1 (0))), (1, .int p1)]) hx hb dX12_judged_71 hl (by decide) rfl (fun ls hl => ?_)
        refine lv_iconst (v := 0) hx hb dX12_judged_73 (by decide) ?_
        refine lv_istore (lv' := [(10, .int (0 : Int32)), (9, .int (1 : Int32)), (8, .int (0 : Int32)), (7, .int (-5 : Int32)), (6, .int (-5 : Int32)), (5, .int (0 : Int32)), (4, .int (-5 : Int32)), (3, .int x3_14), (2, .int x2_13), (0, .ref (E.2.1 (0))), (1, .int p1)]) hx hb dX12_judged_74 hl (by decide) rfl (fun ls hl => ?_)
        exact w_X12_judged_76 C _ _ _ _ _ _ _ _ _ _ _ _ _ _ _ hw (lv_sub hl [9, 10, 8, 7, 6, 5, 4, 3, 2, 1, 0] rfl) h
      · replace h := it_at h c_9
        refine lv_bipush (v := (-3)) hx hb dX12_judged_29 (by decide) ?_
        obtain ⟨rfl, rfl⟩ := ret_at h
        exact q_iret C hw dX12_judged_31
  · replace h := it_at h c_4
    refine lv_iconst (v := (-1)) hx hb dX12_judged_9 (by decide) ?_
    obtain ⟨rfl, rfl⟩ := ret_at h
    exact q_iret C hw dX12_judged_10
def f_X12_ready_108 (k5 : Int32 → Int32 → Int32 → Int32 → Mem → Option (Int32 × Mem)) (x1 : Int32) (x2 : Int32) (x4 : Int32) (s0 : Int32) (s1 : Int32) (σ : Mem) : Option (Int32 × Mem) :=
  lt (s0 + s1) fun x3_12 =>
  lt (x4 + (1 : Int32)) fun x4_13 =>
  k5 x1 x2 x3_12 x4_13 σ
def f_X12_ready_107 (k5 : Int32 → Int32 → Int32 → Int32 → Mem → Option (Int32 × Mem)) (x1 : Int32) (x2 : Int32) (x4 : Int32) (s0 : Int32) (σ : Mem) : Option (Int32 × Mem) :=
  f_X12_ready_108 k5 x1 x2 x4 s0 (0 : Int32) σ
def f_X12_ready_75 (k5 : Int32 → Int32 → Int32 → Int32 → Mem → Option (Int32 × Mem)) (x1 : Int32) (x2 : Int32) (x3 : Int32) (x4 : Int32) (s0 : Int32) (σ : Mem) : Option (Int32 × Mem) :=
  if ((x1 >>> (x4 &&& 31)) &&& (1 : Int32)) = (1 : Int32) then
    (if s0 = 0 then
      (f_X12_ready_107 k5 x1 x2 x4 x3 σ)
    else
      gd (ib ((1037 : Int32) + x4) 1055) <|
      f_X12_ready_108 k5 x1 x2 x4 x3 (gI σ 1 ((1037 : Int32) + x4).toNatClampNeg) σ)
  else
    f_X12_ready_107 k5 x1 x2 x4 x3 σ
def f_X12_ready_74 (k5 : Int32 → Int32 → Int32 → Int32 → Mem → Option (Int32 × Mem)) (x1 : Int32) (x2 : Int32) (x3 : Int32) (x4 : Int32) (σ : Mem) : Option (Int32 × Mem) :=
  f_X12_ready_75 k5 x1 x2 x3 x4 (0 : Int32) σ
def f_X12_ready_70 (k5 : Int32 → Int32 → Int32 → Int32 → Mem → Option (Int32 × Mem)) (x1 : Int32) (x2 : Int32) (x3 : Int32) (x4 : Int32) (σ : Mem) : Option (Int32 × Mem) :=
  f_X12_ready_75 k5 x1 x2 x3 x4 (1 : Int32) σ
def f_X12_ready_5 (k5 : Int32 → Int32 → Int32 → Int32 → Mem → Option (Int32 × Mem)) (x1 : Int32) (x2 : Int32) (x3 : Int32) (x4 : Int32) (σ : Mem) : Option (Int32 × Mem) :=
  if (gI σ 1 3) ≤ x4 then
    (some (x3, σ))
  else
    gd (ib ((1043 : Int32) + x4) 1055) <|
    gd (ib ((1043 : Int32) + x2) 1055) <|
    if (gI σ 1 ((1043 : Int32) + x4).toNatClampNeg) < (gI σ 1 ((1043 : Int32) + x2).toNatClampNeg) then
      (f_X12_ready_70 k5 x1 x2 x3 x4 σ)
    else
      gd (ib ((1043 : Int32) + x4) 1055) <|
      gd (ib ((1043 : Int32) + x2) 1055) <|
      if (gI σ 1 ((1043 : Int32) + x4).toNatClampNeg) = (gI σ 1 ((1043 : Int32) + x2).toNatClampNeg) then
        (if x2 < x4 then
          (f_X12_ready_74 k5 x1 x2 x3 x4 σ)
        else
          f_X12_ready_70 k5 x1 x2 x3 x4 σ)
      else
        f_X12_ready_74 k5 x1 x2 x3 x4 σ
def f_X12_ready (p1 : Int32) (p2 : Int32) (σ : Mem) : Option (Int32 × Mem) :=
  fx5 (f_X12_ready_5) FU p1 p2 (0 : Int32) (0 : Int32) σ
set_option maxHeartbeats 4000000 in
set_option maxRecDepth 100000 in
theorem w_X12_ready_108 {p : Program} {l : Launch} {e : Env} {s : State} {m : MethodId} {args : Array Value} {below : List Frame} {meth : Method} {c : Code} {E : EV} {rr : Int32} {τ : Mem} (C : Cx E p s m args meth c cX12_ready 6 (some .int) RX12) (k5 : Int32 → Int32 → Int32 → Int32 → Mem → Option (Int32 × Mem)) (hk5 : ∀ (x1 : Int32) (x2 : Int32) (x3 : Int32) (x4 : Int32) (σ : Mem) (H : Heap) (locs : List Loc) (ls : Array Slot) (hw : Wd TM E σ s H locs) (hl : lv_has ls 6 [(0, .ref (E.2.1 (0))), (1, .int x1), (2, .int x2), (3, .int x3), (4, .int x4)]) (h : k5 x1 x2 x3 x4 σ = some (rr, τ)), W p l e { frames := 0, cells := 0, slots := 0, locals := 0 } s m args below meth c H locs 0 0 (MQ below (QI TM E rr τ) args s 0 0 E.2.2.1) (F0 m 5 ls [])) : ∀ (x1 : Int32) (x2 : Int32) (x4 : Int32) (s0 : Int32) (s1 : Int32) (σ : Mem) (H : Heap) (locs : List Loc) (ls : Array Slot) (hw : Wd TM E σ s H locs) (hl : lv_has ls 6 [(0, .ref (E.2.1 (0))), (1, .int x1), (2, .int x2), (4, .int x4)]) (h : f_X12_ready_108 k5 x1 x2 x4 s0 s1 σ = some (rr, τ)), W p l e { frames := 0, cells := 0, slots := 0, locals := 0 } s m args below meth c H locs 0 0 (MQ below (QI TM E rr τ) args s 0 0 E.2.2.1) (F0 m 108 ls [.int s1, .int s0]) := by
  obtain ⟨hx, hb, hml, hown, hts, hK, hSt, hlk, hr⟩ := id C
  intro x1 x2 x4 s0 s1 σ H locs ls hw hl h
  unfold f_X12_ready_108 at h
  refine lv_iadd hx hb dX12_ready_108 ?_
  obtain ⟨x3_12, ex3_12, h⟩ := lt_at h
  refine q_top ex3_12 ?_
  refine lv_istore_n (lv' := [(3, .int x3_12), (0, .ref (E.2.1 (0))), (1, .int x1), (2, .int x2), (4, .int x4)]) hx hb dX12_ready_109 rfl hl (by decide) rfl (fun ls hl => ?_)
  obtain ⟨x4_13, ex4_13, h⟩ := lt_at h
  refine lv_iinc (v := x4_13) (lv' := [(4, .int x4_13), (3, .int x3_12), (0, .ref (E.2.1 (0))), (1, .int x1), (2, .int x2)]) hx hb dX12_ready_110 hl (k := 4) rfl (by rw [ex4_13]; rfl) (by decide) rfl (fun ls hl => ?_)
  refine lv_goto (tgt := 5) hx hb dX12_ready_113 (by decide) ?_
  exact hk5 _ _ _ _ _ _ _ _ hw (lv_sub hl [2, 3, 4, 1, 0] rfl) h
set_option maxHeartbeats 4000000 in
set_option maxRecDepth 100000 in
theorem w_X12_ready_107 {p : Program} {l : Launch} {e : Env} {s : State} {m : MethodId} {args : Array Value} {below : List Frame} {meth : Method} {c : Code} {E : EV} {rr : Int32} {τ : Mem} (C : Cx E p s m args meth c cX12_ready 6 (some .int) RX12) (k5 : Int32 → Int32 → Int32 → Int32 → Mem → Option (Int32 × Mem)) (hk5 : ∀ (x1 : Int32) (x2 : Int32) (x3 : Int32) (x4 : Int32) (σ : Mem) (H : Heap) (locs : List Loc) (ls : Array Slot) (hw : Wd TM E σ s H locs) (hl : lv_has ls 6 [(0, .ref (E.2.1 (0))), (1, .int x1), (2, .int x2), (3, .int x3), (4, .int x4)]) (h : k5 x1 x2 x3 x4 σ = some (rr, τ)), W p l e { frames := 0, cells := 0, slots := 0, locals := 0 } s m args below meth c H locs 0 0 (MQ below (QI TM E rr τ) args s 0 0 E.2.2.1) (F0 m 5 ls [])) : ∀ (x1 : Int32) (x2 : Int32) (x4 : Int32) (s0 : Int32) (σ : Mem) (H : Heap) (locs : List Loc) (ls : Array Slot) (hw : Wd TM E σ s H locs) (hl : lv_has ls 6 [(0, .ref (E.2.1 (0))), (1, .int x1), (2, .int x2), (4, .int x4)]) (h : f_X12_ready_107 k5 x1 x2 x4 s0 σ = some (rr, τ)), W p l e { frames := 0, cells := 0, slots := 0, locals := 0 } s m args below meth c H locs 0 0 (MQ below (QI TM E rr τ) args s 0 0 E.2.2.1) (F0 m 107 ls [.int s0]) := by
  obtain ⟨hx, hb, hml, hown, hts, hK, hSt, hlk, hr⟩ := id C
  intro x1 x2 x4 s0 σ H locs ls hw hl h
  unfold f_X12_ready_107 at h
  refine lv_iconst (v := 0) hx hb dX12_ready_107 (by decide) ?_
  exact w_X12_ready_108 C _ hk5 _ _ _ _ _ _ _ _ _ hw (lv_sub hl [0, 1, 2, 3] rfl) h
set_option maxHeartbeats 4000000 in
set_option maxRecDepth 100000 in
theorem w_X12_ready_75 {p : Program} {l : Launch} {e : Env} {s : State} {m : MethodId} {args : Array Value} {below : List Frame} {meth : Method} {c : Code} {E : EV} {rr : Int32} {τ : Mem} (C : Cx E p s m args meth c cX12_ready 6 (some .int) RX12) (k5 : Int32 → Int32 → Int32 → Int32 → Mem → Option (Int32 × Mem)) (hk5 : ∀ (x1 : Int32) (x2 : Int32) (x3 : Int32) (x4 : Int32) (σ : Mem) (H : Heap) (locs : List Loc) (ls : Array Slot) (hw : Wd TM E σ s H locs) (hl : lv_has ls 6 [(0, .ref (E.2.1 (0))), (1, .int x1), (2, .int x2), (3, .int x3), (4, .int x4)]) (h : k5 x1 x2 x3 x4 σ = some (rr, τ)), W p l e { frames := 0, cells := 0, slots := 0, locals := 0 } s m args below meth c H locs 0 0 (MQ below (QI TM E rr τ) args s 0 0 E.2.2.1) (F0 m 5 ls [])) : ∀ (x1 : Int32) (x2 : Int32) (x3 : Int32) (x4 : Int32) (s0 : Int32) (σ : Mem) (H : Heap) (locs : List Loc) (ls : Array Slot) (hw : Wd TM E σ s H locs) (hl : lv_has ls 6 [(0, .ref (E.2.1 (0))), (1, .int x1), (2, .int x2), (3, .int x3), (4, .int x4)]) (h : f_X12_ready_75 k5 x1 x2 x3 x4 s0 σ = some (rr, τ)), W p l e { frames := 0, cells := 0, slots := 0, locals := 0 } s m args below meth c H locs 0 0 (MQ below (QI TM E rr τ) args s 0 0 E.2.2.1) (F0 m 75 ls [.int s0]) := by
  obtain ⟨hx, hb, hml, hown, hts, hK, hSt, hlk, hr⟩ := id C
  intro x1 x2 x3 x4 s0 σ H locs ls hw hl h
  unfold f_X12_ready_75 at h
  refine lv_istore (lv' := [(5, .int s0), (0, .ref (E.2.1 (0))), (1, .int x1), (2, .int x2), (3, .int x3), (4, .int x4)]) hx hb dX12_ready_75 hl (by decide) rfl (fun ls hl => ?_)
  refine lv_iload_n hx hb dX12_ready_77 rfl (lv_at hl 4 rfl) ?_
  refine lv_iload_n hx hb dX12_ready_78 rfl (lv_at hl 2 rfl) ?_
  refine lv_iload hx hb dX12_ready_79 (lv_at hl 5 rfl) ?_
  refine lv_ishr hx hb dX12_ready_81 ?_
  refine lv_iconst (v := 1) hx hb dX12_ready_82 (by decide) ?_
  refine lv_iand hx hb dX12_ready_83 ?_
  refine lv_iconst (v := 1) hx hb dX12_ready_84 (by decide) ?_
  refine lv_icmp_ne (tgt := 107) hx hb dX12_ready_85 (by decide) (fun c_9 => ?_) (fun c_9 => ?_)
  · replace h := ie_at h c_9
    exact w_X12_ready_107 C _ hk5 _ _ _ _ _ _ _ _ hw (lv_sub hl [1, 2, 3, 5] rfl) h
  · replace h := it_at h c_9
    refine lv_iload hx hb dX12_ready_88 (lv_at hl 0 rfl) ?_
    refine lv_if_eq (tgt := 107) hx hb dX12_ready_90 (by decide) (fun c_10 => ?_) (fun c_10 => ?_)
    · replace h := it_at h c_10
      exact w_X12_ready_107 C _ hk5 _ _ _ _ _ _ _ _ hw (lv_sub hl [1, 2, 3, 5] rfl) h
    · replace h := ie_at h c_10
      refine lv_aload_n hx hb dX12_ready_93 rfl (lv_at hl 1 rfl) ?_
      refine gf_12_1 C hw tM_0 kw_1019 dX12_ready_94 ?_
      refine lv_sipush (v := 1037) hx hb dX12_ready_97 (by decide) ?_
      refine lv_iload hx hb dX12_ready_100 (lv_at hl 5 rfl) ?_
      refine lv_iadd hx hb dX12_ready_102 ?_
      obtain ⟨g_11, h⟩ := gd_at h
      refine q_iald C hw tM_1 g_11 dX12_ready_103 ?_
      refine lv_goto (tgt := 108) hx hb dX12_ready_104 (by decide) ?_
      exact w_X12_ready_108 C _ hk5 _ _ _ _ _ _ _ _ _ hw (lv_sub hl [1, 2, 3, 5] rfl) h
set_option maxHeartbeats 4000000 in
set_option maxRecDepth 100000 in
theorem w_X12_ready_74 {p : Program} {l : Launch} {e : Env} {s : State} {m : MethodId} {args : Array Value} {below : List Frame} {meth : Method} {c : Code} {E : EV} {rr : Int32} {τ : Mem} (C : Cx E p s m args meth c cX12_ready 6 (some .int) RX12) (k5 : Int32 → Int32 → Int32 → Int32 → Mem → Option (Int32 × Mem)) (hk5 : ∀ (x1 : Int32) (x2 : Int32) (x3 : Int32) (x4 : Int32) (σ : Mem) (H : Heap) (locs : List Loc) (ls : Array Slot) (hw : Wd TM E σ s H locs) (hl : lv_has ls 6 [(0, .ref (E.2.1 (0))), (1, .int x1), (2, .int x2), (3, .int x3), (4, .int x4)]) (h : k5 x1 x2 x3 x4 σ = some (rr, τ)), W p l e { frames := 0, cells := 0, slots := 0, locals := 0 } s m args below meth c H locs 0 0 (MQ below (QI TM E rr τ) args s 0 0 E.2.2.1) (F0 m 5 ls [])) : ∀ (x1 : Int32) (x2 : Int32) (x3 : Int32) (x4 : Int32) (σ : Mem) (H : Heap) (locs : List Loc) (ls : Array Slot) (hw : Wd TM E σ s H locs) (hl : lv_has ls 6 [(0, .ref (E.2.1 (0))), (1, .int x1), (2, .int x2), (3, .int x3), (4, .int x4)]) (h : f_X12_ready_74 k5 x1 x2 x3 x4 σ = some (rr, τ)), W p l e { frames := 0, cells := 0, slots := 0, locals := 0 } s m args below meth c H locs 0 0 (MQ below (QI TM E rr τ) args s 0 0 E.2.2.1) (F0 m 74 ls []) := by
  obtain ⟨hx, hb, hml, hown, hts, hK, hSt, hlk, hr⟩ := id C
  intro x1 x2 x3 x4 σ H locs ls hw hl h
  unfold f_X12_ready_74 at h
  refine lv_iconst (v := 0) hx hb dX12_ready_74 (by decide) ?_
  exact w_X12_ready_75 C _ hk5 _ _ _ _ _ _ _ _ _ hw (lv_sub hl [0, 1, 2, 3, 4] rfl) h
set_option maxHeartbeats 4000000 in
set_option maxRecDepth 100000 in
theorem w_X12_ready_70 {p : Program} {l : Launch} {e : Env} {s : State} {m : MethodId} {args : Array Value} {below : List Frame} {meth : Method} {c : Code} {E : EV} {rr : Int32} {τ : Mem} (C : Cx E p s m args meth c cX12_ready 6 (some .int) RX12) (k5 : Int32 → Int32 → Int32 → Int32 → Mem → Option (Int32 × Mem)) (hk5 : ∀ (x1 : Int32) (x2 : Int32) (x3 : Int32) (x4 : Int32) (σ : Mem) (H : Heap) (locs : List Loc) (ls : Array Slot) (hw : Wd TM E σ s H locs) (hl : lv_has ls 6 [(0, .ref (E.2.1 (0))), (1, .int x1), (2, .int x2), (3, .int x3), (4, .int x4)]) (h : k5 x1 x2 x3 x4 σ = some (rr, τ)), W p l e { frames := 0, cells := 0, slots := 0, locals := 0 } s m args below meth c H locs 0 0 (MQ below (QI TM E rr τ) args s 0 0 E.2.2.1) (F0 m 5 ls [])) : ∀ (x1 : Int32) (x2 : Int32) (x3 : Int32) (x4 : Int32) (σ : Mem) (H : Heap) (locs : List Loc) (ls : Array Slot) (hw : Wd TM E σ s H locs) (hl : lv_has ls 6 [(0, .ref (E.2.1 (0))), (1, .int x1), (2, .int x2), (3, .int x3), (4, .int x4)]) (h : f_X12_ready_70 k5 x1 x2 x3 x4 σ = some (rr, τ)), W p l e { frames := 0, cells := 0, slots := 0, locals := 0 } s m args below meth c H locs 0 0 (MQ below (QI TM E rr τ) args s 0 0 E.2.2.1) (F0 m 70 ls []) := by
  obtain ⟨hx, hb, hml, hown, hts, hK, hSt, hlk, hr⟩ := id C
  intro x1 x2 x3 x4 σ H locs ls hw hl h
  unfold f_X12_ready_70 at h
  refine lv_iconst (v := 1) hx hb dX12_ready_70 (by decide) ?_
  refine lv_goto (tgt := 75) hx hb dX12_ready_71 (by decide) ?_
  exact w_X12_ready_75 C _ hk5 _ _ _ _ _ _ _ _ _ hw (lv_sub hl [0, 1, 2, 3, 4] rfl) h
set_option maxHeartbeats 4000000 in
set_option maxRecDepth 100000 in
theorem w_X12_ready_5 {p : Program} {l : Launch} {e : Env} {s : State} {m : MethodId} {args : Array Value} {below : List Frame} {meth : Method} {c : Code} {E : EV} {rr : Int32} {τ : Mem} (C : Cx E p s m args meth c cX12_ready 6 (some .int) RX12) : ∀ (n : Nat) (x1 : Int32) (x2 : Int32) (x3 : Int32) (x4 : Int32) (σ : Mem) (H : Heap) (locs : List Loc) (ls : Array Slot) (hw : Wd TM E σ s H locs) (hl : lv_has ls 6 [(0, .ref (E.2.1 (0))), (1, .int x1), (2, .int x2), (3, .int x3), (4, .int x4)]) (h : fx5 (f_X12_ready_5) n x1 x2 x3 x4 σ = some (rr, τ)), W p l e { frames := 0, cells := 0, slots := 0, locals := 0 } s m args below meth c H locs 0 0 (MQ below (QI TM E rr τ) args s 0 0 E.2.2.1) (F0 m 5 ls []) := by
  obtain ⟨hx, hb, hml, hown, hts, hK, hSt, hlk, hr⟩ := id C
  intro n
  induction n with
  | zero =>
    intro x1 x2 x3 x4 σ H locs ls hw hl h
    have h : none = some (rr, τ) := h
    cases h
  | succ n hk5 =>
    intro x1 x2 x3 x4 σ H locs ls hw hl h
    replace h : f_X12_ready_5 (fx5 (f_X12_ready_5) n) x1 x2 x3 x4 σ = some (rr, τ) := h
    unfold f_X12_ready_5 at h
    refine lv_iload hx hb dX12_ready_5 (lv_at hl 4 rfl) ?_
    refine lv_aload_n hx hb dX12_ready_7 rfl (lv_at hl 0 rfl) ?_
    refine gf_12_1 C hw tM_0 kw_1019 dX12_ready_8 ?_
    refine lv_iconst (v := 3) hx hb dX12_ready_11 (by decide) ?_
    refine q_ialdk C hw tM_1 (k := 3) (by rfl) (by decide) (by decide) dX12_ready_12 ?_
    refine lv_icmp_ge (tgt := 116) hx hb dX12_ready_13 (by decide) (fun c_1 => ?_) (fun c_1 => ?_)
    · replace h := it_at h c_1
      refine lv_iload_n hx hb dX12_ready_116 rfl (lv_at hl 3 rfl) ?_
      obtain ⟨rfl, rfl⟩ := ret_at h
      exact q_iret C hw dX12_ready_117
    · replace h := ie_at h c_1
      refine lv_aload_n hx hb dX12_ready_16 rfl (lv_at hl 0 rfl) ?_
      refine gf_12_1 C hw tM_0 kw_1019 dX12_ready_17 ?_
      refine lv_sipush (v := 1043) hx hb dX12_ready_20 (by decide) ?_
      refine lv_iload hx hb dX12_ready_23 (lv_at hl 4 rfl) ?_
      refine lv_iadd hx hb dX12_ready_25 ?_
      obtain ⟨g_2, h⟩ := gd_at h
      refine q_iald C hw tM_1 g_2 dX12_ready_26 ?_
      refine lv_aload_n hx hb dX12_ready_27 rfl (lv_at hl 0 rfl) ?_
      refine gf_12_1 C hw tM_0 kw_1019 dX12_ready_28 ?_
      refine lv_sipush (v := 1043) hx hb dX12_ready_31 (by decide) ?_
      refine lv_iload_n hx hb dX12_ready_34 rfl (lv_at hl 2 rfl) ?_
      refine lv_iadd hx hb dX12_ready_35 ?_
      obtain ⟨g_3, h⟩ := gd_at h
      refine q_iald C hw tM_1 g_3 dX12_ready_36 ?_
      refine lv_icmp_lt (tgt := 70) hx hb dX12_ready_37 (by decide) (fun c_4 => ?_) (fun c_4 => ?_)
      · replace h := it_at h c_4
        exact w_X12_ready_70 C _ hk5 _ _ _ _ _ _ _ _ hw (lv_sub hl [0, 1, 2, 3, 4] rfl) h
      · replace h := ie_at h c_4
        refine lv_aload_n hx hb dX12_ready_40 rfl (lv_at hl 0 rfl) ?_
        refine gf_12_1 C hw tM_0 kw_1019 dX12_ready_41 ?_
        refine lv_sipush (v := 1043) hx hb dX12_ready_44 (by decide) ?_
        refine lv_iload hx hb dX12_ready_47 (lv_at hl 4 rfl) ?_
        refine lv_iadd hx hb dX12_ready_49 ?_
        obtain ⟨g_5, h⟩ := gd_at h
        refine q_iald C hw tM_1 g_5 dX12_ready_50 ?_
        refine lv_aload_n hx hb dX12_ready_51 rfl (lv_at hl 0 rfl) ?_
        refine gf_12_1 C hw tM_0 kw_1019 dX12_ready_52 ?_
        refine lv_sipush (v := 1043) hx hb dX12_ready_55 (by decide) ?_
        refine lv_iload_n hx hb dX12_ready_58 rfl (lv_at hl 2 rfl) ?_
        refine lv_iadd hx hb dX12_ready_59 ?_
        obtain ⟨g_6, h⟩ := gd_at h
        refine q_iald C hw tM_1 g_6 dX12_ready_60 ?_
        refine lv_icmp_ne (tgt := 74) hx hb dX12_ready_61 (by decide) (fun c_7 => ?_) (fun c_7 => ?_)
        · replace h := ie_at h c_7
          exact w_X12_ready_74 C _ hk5 _ _ _ _ _ _ _ _ hw (lv_sub hl [0, 1, 2, 3, 4] rfl) h
        · replace h := it_at h c_7
          refine lv_iload hx hb dX12_ready_64 (lv_at hl 4 rfl) ?_
          refine lv_iload_n hx hb dX12_ready_66 rfl (lv_at hl 2 rfl) ?_
          refine lv_icmp_gt (tgt := 74) hx hb dX12_ready_67 (by decide) (fun c_8 => ?_) (fun c_8 => ?_)
          · replace h := it_at h c_8
            exact w_X12_ready_74 C _ hk5 _ _ _ _ _ _ _ _ hw (lv_sub hl [0, 1, 2, 3, 4] rfl) h
          · replace h := ie_at h c_8
            exact w_X12_ready_70 C _ hk5 _ _ _ _ _ _ _ _ hw (lv_sub hl [0, 1, 2, 3, 4] rfl) h
set_option maxHeartbeats 4000000 in
set_option maxRecDepth 100000 in
theorem m_X12_ready (l : Launch) (E : EV) (p1 : Int32) (p2 : Int32) (σ : Mem) (rr : Int32) (τ : Mem) (h : f_X12_ready p1 p2 σ = some (rr, τ)) : MI TM l E yX12_ready cX12_ready 6 (some .int) 0 0 [.ref (E.2.1 (0)), .int p1, .int p2] σ rr τ := by
  refine mt_start RX12 (by decide +kernel) rfl (Nat.le_of_ble_eq_true rfl) (fun p e s m args below meth c ls C hw hl => ?_)
  replace hl : lv_has ls 6 [(0, .ref (E.2.1 (0))), (1, .int p1), (2, .int p2)] := hl
  obtain ⟨hx, hb, hml, hown, hts, hK, hSt, hlk, hr⟩ := id C
  unfold f_X12_ready at h
  refine lv_iconst (v := 0) hx hb dX12_ready_0 (by decide) ?_
  refine lv_istore_n (lv' := [(3, .int (0 : Int32)), (0, .ref (E.2.1 (0))), (1, .int p1), (2, .int p2)]) hx hb dX12_ready_1 rfl hl (by decide) rfl (fun ls hl => ?_)
  refine lv_iconst (v := 0) hx hb dX12_ready_2 (by decide) ?_
  refine lv_istore (lv' := [(4, .int (0 : Int32)), (3, .int (0 : Int32)), (0, .ref (E.2.1 (0))), (1, .int p1), (2, .int p2)]) hx hb dX12_ready_3 hl (by decide) rfl (fun ls hl => ?_)
  exact w_X12_ready_5 C _ _ _ _ _ _ _ _ _ hw (lv_sub hl [2, 3, 4, 1, 0] rfl) h
def f_X12_lates_50 (k4 : Int32 → Int32 → Int32 → Mem → Option (Int32 × Mem)) (x1 : Int32) (x3 : Int32) (s0 : Int32) (s1 : Int32) (σ : Mem) : Option (Int32 × Mem) :=
  lt (s0 ||| s1) fun x2_8 =>
  lt (x3 + (1 : Int32)) fun x3_9 =>
  k4 x1 x2_8 x3_9 σ
def f_X12_lates_49 (k4 : Int32 → Int32 → Int32 → Mem → Option (Int32 × Mem)) (x1 : Int32) (x3 : Int32) (s0 : Int32) (σ : Mem) : Option (Int32 × Mem) :=
  f_X12_lates_50 k4 x1 x3 s0 (0 : Int32) σ
def f_X12_lates_4 (k4 : Int32 → Int32 → Int32 → Mem → Option (Int32 × Mem)) (x1 : Int32) (x2 : Int32) (x3 : Int32) (σ : Mem) : Option (Int32 × Mem) :=
  if (gI σ 1 3) ≤ x3 then
    (some (x2, σ))
  else
    if ((x1 >>> (x3 &&& 31)) &&& (1 : Int32)) = (1 : Int32) then
      (bd (f_X12_ready x1 x3 σ) fun r_3 σ_4 =>
      gd (ib ((1043 : Int32) + x3) 1055) <|
      if r_3 ≤ (gI σ_4 1 ((1043 : Int32) + x3).toNatClampNeg) then
        (f_X12_lates_49 k4 x1 x3 x2 σ_4)
      else
        f_X12_lates_50 k4 x1 x3 x2 ((1 : Int32) <<< (x3 &&& 31)) σ_4)
    else
      f_X12_lates_49 k4 x1 x3 x2 σ
def f_X12_lates (p1 : Int32) (σ : Mem) : Option (Int32 × Mem) :=
  fx4 (f_X12_lates_4) FU p1 (0 : Int32) (0 : Int32) σ
set_option maxHeartbeats 4000000 in
set_option maxRecDepth 100000 in
theorem w_X12_lates_50 {p : Program} {l : Launch} {e : Env} {s : State} {m : MethodId} {args : Array Value} {below : List Frame} {meth : Method} {c : Code} {E : EV} {rr : Int32} {τ : Mem} (C : Cx E p s m args meth c cX12_lates 4 (some .int) RX12) (k4 : Int32 → Int32 → Int32 → Mem → Option (Int32 × Mem)) (hk4 : ∀ (x1 : Int32) (x2 : Int32) (x3 : Int32) (σ : Mem) (H : Heap) (locs : List Loc) (ls : Array Slot) (hw : Wd TM E σ s H locs) (hl : lv_has ls 4 [(0, .ref (E.2.1 (0))), (1, .int x1), (2, .int x2), (3, .int x3)]) (h : k4 x1 x2 x3 σ = some (rr, τ)), W p l e { frames := 1, cells := 0, slots := 0, locals := 25 } s m args below meth c H locs 0 0 (MQ below (QI TM E rr τ) args s 0 0 E.2.2.1) (F0 m 4 ls [])) : ∀ (x1 : Int32) (x3 : Int32) (s0 : Int32) (s1 : Int32) (σ : Mem) (H : Heap) (locs : List Loc) (ls : Array Slot) (hw : Wd TM E σ s H locs) (hl : lv_has ls 4 [(0, .ref (E.2.1 (0))), (1, .int x1), (3, .int x3)]) (h : f_X12_lates_50 k4 x1 x3 s0 s1 σ = some (rr, τ)), W p l e { frames := 1, cells := 0, slots := 0, locals := 25 } s m args below meth c H locs 0 0 (MQ below (QI TM E rr τ) args s 0 0 E.2.2.1) (F0 m 50 ls [.int s1, .int s0]) := by
  obtain ⟨hx, hb, hml, hown, hts, hK, hSt, hlk, hr⟩ := id C
  intro x1 x3 s0 s1 σ H locs ls hw hl h
  unfold f_X12_lates_50 at h
  refine lv_ior hx hb dX12_lates_50 ?_
  obtain ⟨x2_8, ex2_8, h⟩ := lt_at h
  refine q_top ex2_8 ?_
  refine lv_istore_n (lv' := [(2, .int x2_8), (0, .ref (E.2.1 (0))), (1, .int x1), (3, .int x3)]) hx hb dX12_lates_51 rfl hl (by decide) rfl (fun ls hl => ?_)
  obtain ⟨x3_9, ex3_9, h⟩ := lt_at h
  refine lv_iinc (v := x3_9) (lv' := [(3, .int x3_9), (2, .int x2_8), (0, .ref (E.2.1 (0))), (1, .int x1)]) hx hb dX12_lates_52 hl (k := 3) rfl (by rw [ex3_9]; rfl) (by decide) rfl (fun ls hl => ?_)
  refine lv_goto (tgt := 4) hx hb dX12_lates_55 (by decide) ?_
  exact hk4 _ _ _ _ _ _ _ hw (lv_sub hl [2, 3, 1, 0] rfl) h
set_option maxHeartbeats 4000000 in
set_option maxRecDepth 100000 in
theorem w_X12_lates_49 {p : Program} {l : Launch} {e : Env} {s : State} {m : MethodId} {args : Array Value} {below : List Frame} {meth : Method} {c : Code} {E : EV} {rr : Int32} {τ : Mem} (C : Cx E p s m args meth c cX12_lates 4 (some .int) RX12) (k4 : Int32 → Int32 → Int32 → Mem → Option (Int32 × Mem)) (hk4 : ∀ (x1 : Int32) (x2 : Int32) (x3 : Int32) (σ : Mem) (H : Heap) (locs : List Loc) (ls : Array Slot) (hw : Wd TM E σ s H locs) (hl : lv_has ls 4 [(0, .ref (E.2.1 (0))), (1, .int x1), (2, .int x2), (3, .int x3)]) (h : k4 x1 x2 x3 σ = some (rr, τ)), W p l e { frames := 1, cells := 0, slots := 0, locals := 25 } s m args below meth c H locs 0 0 (MQ below (QI TM E rr τ) args s 0 0 E.2.2.1) (F0 m 4 ls [])) : ∀ (x1 : Int32) (x3 : Int32) (s0 : Int32) (σ : Mem) (H : Heap) (locs : List Loc) (ls : Array Slot) (hw : Wd TM E σ s H locs) (hl : lv_has ls 4 [(0, .ref (E.2.1 (0))), (1, .int x1), (3, .int x3)]) (h : f_X12_lates_49 k4 x1 x3 s0 σ = some (rr, τ)), W p l e { frames := 1, cells := 0, slots := 0, locals := 25 } s m args below meth c H locs 0 0 (MQ below (QI TM E rr τ) args s 0 0 E.2.2.1) (F0 m 49 ls [.int s0]) := by
  obtain ⟨hx, hb, hml, hown, hts, hK, hSt, hlk, hr⟩ := id C
  intro x1 x3 s0 σ H locs ls hw hl h
  unfold f_X12_lates_49 at h
  refine lv_iconst (v := 0) hx hb dX12_lates_49 (by decide) ?_
  exact w_X12_lates_50 C _ hk4 _ _ _ _ _ _ _ _ hw (lv_sub hl [0, 1, 2] rfl) h
set_option maxHeartbeats 4000000 in
set_option maxRecDepth 100000 in
theorem w_X12_lates_4 {p : Program} {l : Launch} {e : Env} {s : State} {m : MethodId} {args : Array Value} {below : List Frame} {meth : Method} {c : Code} {E : EV} {rr : Int32} {τ : Mem} (C : Cx E p s m args meth c cX12_lates 4 (some .int) RX12) : ∀ (n : Nat) (x1 : Int32) (x2 : Int32) (x3 : Int32) (σ : Mem) (H : Heap) (locs : List Loc) (ls : Array Slot) (hw : Wd TM E σ s H locs) (hl : lv_has ls 4 [(0, .ref (E.2.1 (0))), (1, .int x1), (2, .int x2), (3, .int x3)]) (h : fx4 (f_X12_lates_4) n x1 x2 x3 σ = some (rr, τ)), W p l e { frames := 1, cells := 0, slots := 0, locals := 25 } s m args below meth c H locs 0 0 (MQ below (QI TM E rr τ) args s 0 0 E.2.2.1) (F0 m 4 ls []) := by
  obtain ⟨hx, hb, hml, hown, hts, hK, hSt, hlk, hr⟩ := id C
  intro n
  induction n with
  | zero =>
    intro x1 x2 x3 σ H locs ls hw hl h
    have h : none = some (rr, τ) := h
    cases h
  | succ n hk4 =>
    intro x1 x2 x3 σ H locs ls hw hl h
    replace h : f_X12_lates_4 (fx4 (f_X12_lates_4) n) x1 x2 x3 σ = some (rr, τ) := h
    unfold f_X12_lates_4 at h
    refine lv_iload_n hx hb dX12_lates_4 rfl (lv_at hl 3 rfl) ?_
    refine lv_aload_n hx hb dX12_lates_5 rfl (lv_at hl 0 rfl) ?_
    refine gf_12_1 C hw tM_0 kw_1019 dX12_lates_6 ?_
    refine lv_iconst (v := 3) hx hb dX12_lates_9 (by decide) ?_
    refine q_ialdk C hw tM_1 (k := 3) (by rfl) (by decide) (by decide) dX12_lates_10 ?_
    refine lv_icmp_ge (tgt := 58) hx hb dX12_lates_11 (by decide) (fun c_1 => ?_) (fun c_1 => ?_)
    · replace h := it_at h c_1
      refine lv_iload_n hx hb dX12_lates_58 rfl (lv_at hl 2 rfl) ?_
      obtain ⟨rfl, rfl⟩ := ret_at h
      exact q_iret C hw dX12_lates_59
    · replace h := ie_at h c_1
      refine lv_iload_n hx hb dX12_lates_14 rfl (lv_at hl 2 rfl) ?_
      refine lv_iload_n hx hb dX12_lates_15 rfl (lv_at hl 1 rfl) ?_
      refine lv_iload_n hx hb dX12_lates_16 rfl (lv_at hl 3 rfl) ?_
      refine lv_ishr hx hb dX12_lates_17 ?_
      refine lv_iconst (v := 1) hx hb dX12_lates_18 (by decide) ?_
      refine lv_iand hx hb dX12_lates_19 ?_
      refine lv_iconst (v := 1) hx hb dX12_lates_20 (by decide) ?_
      refine lv_icmp_ne (tgt := 49) hx hb dX12_lates_21 (by decide) (fun c_2 => ?_) (fun c_2 => ?_)
      · replace h := ie_at h c_2
        exact w_X12_lates_49 C _ hk4 _ _ _ _ _ _ _ hw (lv_sub hl [0, 1, 3] rfl) h
      · replace h := it_at h c_2
        refine lv_aload_n hx hb dX12_lates_24 rfl (lv_at hl 0 rfl) ?_
        refine lv_iload_n hx hb dX12_lates_25 rfl (lv_at hl 1 rfl) ?_
        refine lv_iload_n hx hb dX12_lates_26 rfl (lv_at hl 3 rfl) ?_
        obtain ⟨r_3, σ_4, h_5, h⟩ := bd_at h
        refine q_afterI hw (q_runV C hw hl.1 (As := [.int x1, .int x3]) (rest := [.int x2]) (m_X12_ready l E x1 x3 σ r_3 σ_4 h_5) yq_X12_ready tM_0 rfl rfl kw_1362 ⟨Nat.le_of_ble_eq_true rfl, Nat.le_of_ble_eq_true rfl⟩ rfl (Nat.le_of_ble_eq_true rfl) ⟨Nat.zero_le _, Nat.zero_le _⟩ dX12_lates_27) (fun H locs hw => ?_)
        refine lv_aload_n hx hb dX12_lates_30 rfl (lv_at hl 0 rfl) ?_
        refine gf_12_1 C hw tM_0 kw_1019 dX12_lates_31 ?_
        refine lv_sipush (v := 1043) hx hb dX12_lates_34 (by decide) ?_
        refine lv_iload_n hx hb dX12_lates_37 rfl (lv_at hl 3 rfl) ?_
        refine lv_iadd hx hb dX12_lates_38 ?_
        obtain ⟨g_6, h⟩ := gd_at h
        refine q_iald C hw tM_1 g_6 dX12_lates_39 ?_
        refine lv_icmp_le (tgt := 49) hx hb dX12_lates_40 (by decide) (fun c_7 => ?_) (fun c_7 => ?_)
        · replace h := it_at h c_7
          exact w_X12_lates_49 C _ hk4 _ _ _ _ _ _ _ hw (lv_sub hl [0, 1, 3] rfl) h
        · replace h := ie_at h c_7
          refine lv_iconst (v := 1) hx hb dX12_lates_43 (by decide) ?_
          refine lv_iload_n hx hb dX12_lates_44 rfl (lv_at hl 3 rfl) ?_
          refine lv_ishl hx hb dX12_lates_45 ?_
          refine lv_goto (tgt := 50) hx hb dX12_lates_46 (by decide) ?_
          exact w_X12_lates_50 C _ hk4 _ _ _ _ _ _ _ _ hw (lv_sub hl [0, 1, 3] rfl) h
set_option maxHeartbeats 4000000 in
set_option maxRecDepth 100000 in
theorem m_X12_lates (l : Launch) (E : EV) (p1 : Int32) (σ : Mem) (rr : Int32) (τ : Mem) (h : f_X12_lates p1 σ = some (rr, τ)) : MI TM l E yX12_lates cX12_lates 4 (some .int) 1 25 [.ref (E.2.1 (0)), .int p1] σ rr τ := by
  refine mt_start RX12 (by decide +kernel) rfl (Nat.le_of_ble_eq_true rfl) (fun p e s m args below meth c ls C hw hl => ?_)
  replace hl : lv_has ls 4 [(0, .ref (E.2.1 (0))), (1, .int p1)] := hl
  obtain ⟨hx, hb, hml, hown, hts, hK, hSt, hlk, hr⟩ := id C
  unfold f_X12_lates at h
  refine lv_iconst (v := 0) hx hb dX12_lates_0 (by decide) ?_
  refine lv_istore_n (lv' := [(2, .int (0 : Int32)), (0, .ref (E.2.1 (0))), (1, .int p1)]) hx hb dX12_lates_1 rfl hl (by decide) rfl (fun ls hl => ?_)
  refine lv_iconst (v := 0) hx hb dX12_lates_2 (by decide) ?_
  refine lv_istore_n (lv' := [(3, .int (0 : Int32)), (2, .int (0 : Int32)), (0, .ref (E.2.1 (0))), (1, .int p1)]) hx hb dX12_lates_3 rfl hl (by decide) rfl (fun ls hl => ?_)
  exact w_X12_lates_4 C _ _ _ _ _ _ _ _ hw (lv_sub hl [2, 3, 1, 0] rfl) h
def f_X12_late (p1 : Int32) (σ : Mem) : Option (Int32 × Mem) :=
  bd (f_X12_in p1 (0 : Int32) (((1 : Int32) <<< ((gI σ 1 3) &&& 31)) - (1 : Int32)) σ) fun r_1 σ_2 =>
  if r_1 = 0 then
    (some ((-2 : Int32), σ_2))
  else
    bd (f_X12_lates p1 σ_2) fun r_5 σ_6 =>
    some (r_5, σ_6)
set_option maxHeartbeats 4000000 in
set_option maxRecDepth 100000 in
theorem m_X12_late (l : Launch) (E : EV) (p1 : Int32) (σ : Mem) (rr : Int32) (τ : Mem) (h : f_X12_late p1 σ = some (rr, τ)) : MI TM l E yX12_late cX12_late 2 (some .int) 2 48 [.ref (E.2.1 (0)), .int p1] σ rr τ := by
  refine mt_start RX12 (by decide +kernel) rfl (Nat.le_of_ble_eq_true rfl) (fun p e s m args below meth c ls C hw hl => ?_)
  replace hl : lv_has ls 2 [(0, .ref (E.2.1 (0))), (1, .int p1)] := hl
  obtain ⟨hx, hb, hml, hown, hts, hK, hSt, hlk, hr⟩ := id C
  unfold f_X12_late at h
  refine lv_iload_n hx hb dX12_late_0 rfl (lv_at hl 1 rfl) ?_
  refine lv_iconst (v := 0) hx hb dX12_late_1 (by decide) ?_
  refine lv_iconst (v := 1) hx hb dX12_late_2 (by decide) ?_
  refine lv_aload_n hx hb dX12_late_3 rfl (lv_at hl 0 rfl) ?_
  refine gf_12_1 C hw tM_0 kw_1019 dX12_late_4 ?_
  refine lv_iconst (v := 3) hx hb dX12_late_7 (by decide) ?_
  refine q_ialdk C hw tM_1 (k := 3) (by rfl) (by decide) (by decide) dX12_late_8 ?_
  refine lv_ishl hx hb dX12_late_9 ?_
  refine lv_iconst (v := 1) hx hb dX12_late_10 (by decide) ?_
  refine lv_isub hx hb dX12_late_11 ?_
  obtain ⟨r_1, σ_2, h_3, h⟩ := bd_at h
  refine q_afterI hw (q_runS C hw hl.1 (As := [.int p1, .int (0 : Int32), .int (((1 : Int32) <<< ((gI σ 1 3) &&& 31)) - (1 : Int32))]) (rest := []) (m_X12_in l E p1 (0 : Int32) (((1 : Int32) <<< ((gI σ 1 3) &&& 31)) - (1 : Int32)) σ r_1 σ_2 h_3) yq_X12_in kw_1142 ⟨Nat.le_of_ble_eq_true rfl, Nat.le_of_ble_eq_true rfl⟩ rfl (Nat.le_of_ble_eq_true rfl) ⟨Nat.zero_le _, Nat.zero_le _⟩ dX12_late_12) (fun H locs hw => ?_)
  refine lv_if_eq (tgt := 26) hx hb dX12_late_15 (by decide) (fun c_4 => ?_) (fun c_4 => ?_)
  · replace h := it_at h c_4
    refine lv_bipush (v := (-2)) hx hb dX12_late_26 (by decide) ?_
    obtain ⟨rfl, rfl⟩ := ret_at h
    exact q_iret C hw dX12_late_28
  · replace h := ie_at h c_4
    refine lv_aload_n hx hb dX12_late_18 rfl (lv_at hl 0 rfl) ?_
    refine lv_iload_n hx hb dX12_late_19 rfl (lv_at hl 1 rfl) ?_
    obtain ⟨r_5, σ_6, h_7, h⟩ := bd_at h
    refine q_afterI hw (q_runV C hw hl.1 (As := [.int p1]) (rest := []) (m_X12_lates l E p1 σ_2 r_5 σ_6 h_7) yq_X12_lates tM_0 rfl rfl kw_1358 ⟨Nat.le_of_ble_eq_true rfl, Nat.le_of_ble_eq_true rfl⟩ rfl (Nat.le_of_ble_eq_true rfl) ⟨Nat.zero_le _, Nat.zero_le _⟩ dX12_late_20) (fun H locs hw => ?_)
    refine lv_goto (tgt := 28) hx hb dX12_late_23 (by decide) ?_
    obtain ⟨rfl, rfl⟩ := ret_at h
    exact q_iret C hw dX12_late_28
def f_X12_lead (p1 : Int32) (σ : Mem) : Option (Int32 × Mem) :=
  bd (f_X12_isMill p1 σ) fun r_1 σ_2 =>
  if r_1 = 0 then
    (some ((-1 : Int32), σ_2))
  else
    lt (sI σ_2 1 5 p1) fun σ_5 =>
    lt (sI σ_5 1 6 (0 : Int32)) fun σ_6 =>
    lt (sI σ_6 1 7 (0 : Int32)) fun σ_7 =>
    lt (sI σ_7 1 8 (0 : Int32)) fun σ_8 =>
    lt (sI σ_8 1 9 (0 : Int32)) fun σ_9 =>
    lt (sI σ_9 1 10 (0 : Int32)) fun σ_10 =>
    some ((1 : Int32), σ_10)
set_option maxHeartbeats 4000000 in
set_option maxRecDepth 100000 in
theorem m_X12_lead (l : Launch) (E : EV) (p1 : Int32) (σ : Mem) (rr : Int32) (τ : Mem) (h : f_X12_lead p1 σ = some (rr, τ)) : MI TM l E yX12_lead cX12_lead 2 (some .int) 2 43 [.ref (E.2.1 (0)), .int p1] σ rr τ := by
  refine mt_start RX12 (by decide +kernel) rfl (Nat.le_of_ble_eq_true rfl) (fun p e s m args below meth c ls C hw hl => ?_)
  replace hl : lv_has ls 2 [(0, .ref (E.2.1 (0))), (1, .int p1)] := hl
  obtain ⟨hx, hb, hml, hown, hts, hK, hSt, hlk, hr⟩ := id C
  unfold f_X12_lead at h
  refine lv_aload_n hx hb dX12_lead_0 rfl (lv_at hl 0 rfl) ?_
  refine lv_iload_n hx hb dX12_lead_1 rfl (lv_at hl 1 rfl) ?_
  obtain ⟨r_1, σ_2, h_3, h⟩ := bd_at h
  refine q_afterI hw (q_runV C hw hl.1 (As := [.int p1]) (rest := []) (m_X12_isMill l E p1 σ r_1 σ_2 h_3) yq_X12_isMill tM_0 rfl rfl kw_1213 ⟨Nat.le_of_ble_eq_true rfl, Nat.le_of_ble_eq_true rfl⟩ rfl (Nat.le_of_ble_eq_true rfl) ⟨Nat.zero_le _, Nat.zero_le _⟩ dX12_lead_2) (fun H locs hw => ?_)
  refine lv_if_ne (tgt := 10) hx hb dX12_lead_5 (by decide) (fun c_4 => ?_) (fun c_4 => ?_)
  · replace h := ie_at h c_4
    refine lv_aload_n hx hb dX12_lead_10 rfl (lv_at hl 0 rfl) ?_
    refine gf_12_1 C hw tM_0 kw_1019 dX12_lead_11 ?_
    refine lv_iconst (v := 5) hx hb dX12_lead_14 (by decide) ?_
    refine lv_iload_n hx hb dX12_lead_15 rfl (lv_at hl 1 rfl) ?_
    obtain ⟨σ_5, eσ_5, h⟩ := lt_at h
    refine q_iastk C hw tM_1 (k := 5) (by rfl) (by decide) (by decide) eσ_5 dX12_lead_16 (fun H locs hw => ?_)
    refine lv_aload_n hx hb dX12_lead_17 rfl (lv_at hl 0 rfl) ?_
    refine gf_12_1 C hw tM_0 kw_1019 dX12_lead_18 ?_
    refine lv_bipush (v := 6) hx hb dX12_lead_21 (by decide) ?_
    refine lv_iconst (v := 0) hx hb dX12_lead_23 (by decide) ?_
    obtain ⟨σ_6, eσ_6, h⟩ := lt_at h
    refine q_iastk C hw tM_1 (k := 6) (by rfl) (by decide) (by decide) eσ_6 dX12_lead_24 (fun H locs hw => ?_)
    refine lv_aload_n hx hb dX12_lead_25 rfl (lv_at hl 0 rfl) ?_
    refine gf_12_1 C hw tM_0 kw_1019 dX12_lead_26 ?_
    refine lv_bipush (v := 7) hx hb dX12_lead_29 (by decide) ?_
    refine lv_iconst (v := 0) hx hb dX12_lead_31 (by decide) ?_
    obtain ⟨σ_7, eσ_7, h⟩ := lt_at h
    refine q_iastk C hw tM_1 (k := 7) (by rfl) (by decide) (by decide) eσ_7 dX12_lead_32 (fun H locs hw => ?_)
    refine lv_aload_n hx hb dX12_lead_33 rfl (lv_at hl 0 rfl) ?_
    refine gf_12_1 C hw tM_0 kw_1019 dX12_lead_34 ?_
    refine lv_bipush (v := 8) hx hb dX12_lead_37 (by decide) ?_
    refine lv_iconst (v := 0) hx hb dX12_lead_39 (by decide) ?_
    obtain ⟨σ_8, eσ_8, h⟩ := lt_at h
    refine q_iastk C hw tM_1 (k := 8) (by rfl) (by decide) (by decide) eσ_8 dX12_lead_40 (fun H locs hw => ?_)
    refine lv_aload_n hx hb dX12_lead_41 rfl (lv_at hl 0 rfl) ?_
    refine gf_12_1 C hw tM_0 kw_1019 dX12_lead_42 ?_
    refine lv_bipush (v := 9) hx hb dX12_lead_45 (by decide) ?_
    refine lv_iconst (v := 0) hx hb dX12_lead_47 (by decide) ?_
    obtain ⟨σ_9, eσ_9, h⟩ := lt_at h
    refine q_iastk C hw tM_1 (k := 9) (by rfl) (by decide) (by decide) eσ_9 dX12_lead_48 (fun H locs hw => ?_)
    refine lv_aload_n hx hb dX12_lead_49 rfl (lv_at hl 0 rfl) ?_
    refine gf_12_1 C hw tM_0 kw_1019 dX12_lead_50 ?_
    refine lv_bipush (v := 10) hx hb dX12_lead_53 (by decide) ?_
    refine lv_iconst (v := 0) hx hb dX12_lead_55 (by decide) ?_
    obtain ⟨σ_10, eσ_10, h⟩ := lt_at h
    refine q_iastk C hw tM_1 (k := 10) (by rfl) (by decide) (by decide) eσ_10 dX12_lead_56 (fun H locs hw => ?_)
    refine lv_iconst (v := 1) hx hb dX12_lead_57 (by decide) ?_
    obtain ⟨rfl, rfl⟩ := ret_at h
    exact q_iret C hw dX12_lead_58
  · replace h := it_at h c_4
    refine lv_iconst (v := (-1)) hx hb dX12_lead_8 (by decide) ?_
    obtain ⟨rfl, rfl⟩ := ret_at h
    exact q_iret C hw dX12_lead_9
def f_X12_led (p1 : Int32) (σ : Mem) : Option (Int32 × Mem) :=
  bd (f_X12_in p1 (0 : Int32) (5 : Int32) σ) fun r_1 σ_2 =>
  if r_1 = 0 then
    (some ((-1 : Int32), σ_2))
  else
    bd (f_X12_isLed σ_2) fun r_5 σ_6 =>
    if r_5 = 0 then
      (some ((-3 : Int32), σ_6))
    else
      gd (ib ((5 : Int32) + p1) 1055) <|
      some (gI σ_6 1 ((5 : Int32) + p1).toNatClampNeg, σ_6)
set_option maxHeartbeats 4000000 in
set_option maxRecDepth 100000 in
theorem m_X12_led (l : Launch) (E : EV) (p1 : Int32) (σ : Mem) (rr : Int32) (τ : Mem) (h : f_X12_led p1 σ = some (rr, τ)) : MI TM l E yX12_led cX12_led 2 (some .int) 1 22 [.ref (E.2.1 (0)), .int p1] σ rr τ := by
  refine mt_start RX12 (by decide +kernel) rfl (Nat.le_of_ble_eq_true rfl) (fun p e s m args below meth c ls C hw hl => ?_)
  replace hl : lv_has ls 2 [(0, .ref (E.2.1 (0))), (1, .int p1)] := hl
  obtain ⟨hx, hb, hml, hown, hts, hK, hSt, hlk, hr⟩ := id C
  unfold f_X12_led at h
  refine lv_iload_n hx hb dX12_led_0 rfl (lv_at hl 1 rfl) ?_
  refine lv_iconst (v := 0) hx hb dX12_led_1 (by decide) ?_
  refine lv_iconst (v := 5) hx hb dX12_led_2 (by decide) ?_
  obtain ⟨r_1, σ_2, h_3, h⟩ := bd_at h
  refine q_afterI hw (q_runS C hw hl.1 (As := [.int p1, .int (0 : Int32), .int (5 : Int32)]) (rest := []) (m_X12_in l E p1 (0 : Int32) (5 : Int32) σ r_1 σ_2 h_3) yq_X12_in kw_1142 ⟨Nat.le_of_ble_eq_true rfl, Nat.le_of_ble_eq_true rfl⟩ rfl (Nat.le_of_ble_eq_true rfl) ⟨Nat.zero_le _, Nat.zero_le _⟩ dX12_led_3) (fun H locs hw => ?_)
  refine lv_if_ne (tgt := 11) hx hb dX12_led_6 (by decide) (fun c_4 => ?_) (fun c_4 => ?_)
  · replace h := ie_at h c_4
    refine lv_aload_n hx hb dX12_led_11 rfl (lv_at hl 0 rfl) ?_
    obtain ⟨r_5, σ_6, h_7, h⟩ := bd_at h
    refine q_afterI hw (q_runV C hw hl.1 (As := []) (rest := []) (m_X12_isLed l E  σ_2 r_5 σ_6 h_7) yq_X12_isLed tM_0 rfl rfl kw_1251 ⟨Nat.le_of_ble_eq_true rfl, Nat.le_of_ble_eq_true rfl⟩ rfl (Nat.le_of_ble_eq_true rfl) ⟨Nat.zero_le _, Nat.zero_le _⟩ dX12_led_12) (fun H locs hw => ?_)
    refine lv_if_eq (tgt := 29) hx hb dX12_led_15 (by decide) (fun c_8 => ?_) (fun c_8 => ?_)
    · replace h := it_at h c_8
      refine lv_bipush (v := (-3)) hx hb dX12_led_29 (by decide) ?_
      obtain ⟨rfl, rfl⟩ := ret_at h
      exact q_iret C hw dX12_led_31
    · replace h := ie_at h c_8
      refine lv_aload_n hx hb dX12_led_18 rfl (lv_at hl 0 rfl) ?_
      refine gf_12_1 C hw tM_0 kw_1019 dX12_led_19 ?_
      refine lv_iconst (v := 5) hx hb dX12_led_22 (by decide) ?_
      refine lv_iload_n hx hb dX12_led_23 rfl (lv_at hl 1 rfl) ?_
      refine lv_iadd hx hb dX12_led_24 ?_
      obtain ⟨g_9, h⟩ := gd_at h
      refine q_iald C hw tM_1 g_9 dX12_led_25 ?_
      refine lv_goto (tgt := 31) hx hb dX12_led_26 (by decide) ?_
      obtain ⟨rfl, rfl⟩ := ret_at h
      exact q_iret C hw dX12_led_31
  · replace h := it_at h c_4
    refine lv_iconst (v := (-1)) hx hb dX12_led_9 (by decide) ?_
    obtain ⟨rfl, rfl⟩ := ret_at h
    exact q_iret C hw dX12_led_10
def f_X12_looksAt_11 (k2 : Int32 → Int32 → Int32 → Mem → Option Mem) (k11 : Int32 → Int32 → Int32 → Int32 → Mem → Option Mem) (x1 : Int32) (x2 : Int32) (x3 : Int32) (x4 : Int32) (σ : Mem) : Option Mem :=
  if (4 : Int32) ≤ x4 then
    (lt (x3 + (1 : Int32)) fun x3_3 =>
    k2 x1 x2 x3_3 σ)
  else
    bv (f_X12_hourOf x2 x3 ((2 : Int32) * x4) (0 : Int32) (0 : Int32) σ) fun σ_5 =>
    gd (ib ((((24 : Int32) * x1) + ((4 : Int32) * x3)) + x4) 72) <|
    lt (sI σ_5 14 ((((24 : Int32) * x1) + ((4 : Int32) * x3)) + x4).toNatClampNeg (gI σ_5 0 13)) fun σ_7 =>
    lt (x4 + (1 : Int32)) fun x4_9 =>
    k11 x1 x2 x3 x4_9 σ_7
def f_X12_looksAt_2 (k2 : Int32 → Int32 → Int32 → Mem → Option Mem) (x1 : Int32) (x2 : Int32) (x3 : Int32) (σ : Mem) : Option Mem :=
  if (6 : Int32) ≤ x3 then
    (some σ)
  else
    fx5 (f_X12_looksAt_11 k2) FU x1 x2 x3 (0 : Int32) σ
def f_X12_looksAt (p1 : Int32) (p2 : Int32) (σ : Mem) : Option Mem :=
  fx4 (f_X12_looksAt_2) FU p1 p2 (0 : Int32) σ
set_option maxHeartbeats 4000000 in
set_option maxRecDepth 100000 in
theorem w_X12_looksAt_11 {p : Program} {l : Launch} {e : Env} {s : State} {m : MethodId} {args : Array Value} {below : List Frame} {meth : Method} {c : Code} {E : EV} {τ : Mem} (C : Cx E p s m args meth c cX12_looksAt 5 none RX12) (k2 : Int32 → Int32 → Int32 → Mem → Option Mem) (hk2 : ∀ (x1 : Int32) (x2 : Int32) (x3 : Int32) (σ : Mem) (H : Heap) (locs : List Loc) (ls : Array Slot) (hw : Wd TM E σ s H locs) (hl : lv_has ls 5 [(0, .ref (E.2.1 (0))), (1, .int x1), (2, .int x2), (3, .int x3)]) (h : k2 x1 x2 x3 σ = some τ), W p l e { frames := 3, cells := 0, slots := 0, locals := 81 } s m args below meth c H locs 0 0 (MQ below (QV TM E τ) args s 0 0 E.2.2.1) (F0 m 2 ls [])) : ∀ (n : Nat) (x1 : Int32) (x2 : Int32) (x3 : Int32) (x4 : Int32) (σ : Mem) (H : Heap) (locs : List Loc) (ls : Array Slot) (hw : Wd TM E σ s H locs) (hl : lv_has ls 5 [(0, .ref (E.2.1 (0))), (1, .int x1), (2, .int x2), (3, .int x3), (4, .int x4)]) (h : fx5 (f_X12_looksAt_11 k2) n x1 x2 x3 x4 σ = some τ), W p l e { frames := 3, cells := 0, slots := 0, locals := 81 } s m args below meth c H locs 0 0 (MQ below (QV TM E τ) args s 0 0 E.2.2.1) (F0 m 11 ls []) := by
  obtain ⟨hx, hb, hml, hown, hts, hK, hSt, hlk, hr⟩ := id C
  intro n
  induction n with
  | zero =>
    intro x1 x2 x3 x4 σ H locs ls hw hl h
    have h : none = some τ := h
    cases h
  | succ n hk11 =>
    intro x1 x2 x3 x4 σ H locs ls hw hl h
    replace h : f_X12_looksAt_11 k2 (fx5 (f_X12_looksAt_11 k2) n) x1 x2 x3 x4 σ = some τ := h
    unfold f_X12_looksAt_11 at h
    refine lv_iload hx hb dX12_looksAt_11 (lv_at hl 4 rfl) ?_
    refine lv_iconst (v := 4) hx hb dX12_looksAt_13 (by decide) ?_
    refine lv_icmp_ge (tgt := 55) hx hb dX12_looksAt_14 (by decide) (fun c_2 => ?_) (fun c_2 => ?_)
    · replace h := it_at h c_2
      obtain ⟨x3_3, ex3_3, h⟩ := lt_at h
      refine lv_iinc (v := x3_3) (lv' := [(3, .int x3_3), (0, .ref (E.2.1 (0))), (1, .int x1), (2, .int x2), (4, .int x4)]) hx hb dX12_looksAt_55 hl (k := 3) rfl (by rw [ex3_3]; rfl) (by decide) rfl (fun ls hl => ?_)
      refine lv_goto (tgt := 2) hx hb dX12_looksAt_58 (by decide) ?_
      exact hk2 _ _ _ _ _ _ _ hw (lv_sub hl [1, 2, 3, 0] rfl) h
    · replace h := ie_at h c_2
      refine lv_aload_n hx hb dX12_looksAt_17 rfl (lv_at hl 0 rfl) ?_
      refine lv_iload_n hx hb dX12_looksAt_18 rfl (lv_at hl 2 rfl) ?_
      refine lv_iload_n hx hb dX12_looksAt_19 rfl (lv_at hl 3 rfl) ?_
      refine lv_iconst (v := 2) hx hb dX12_looksAt_20 (by decide) ?_
      refine lv_iload hx hb dX12_looksAt_21 (lv_at hl 4 rfl) ?_
      refine lv_imul hx hb dX12_looksAt_23 ?_
      refine lv_iconst (v := 0) hx hb dX12_looksAt_24 (by decide) ?_
      refine lv_iconst (v := 0) hx hb dX12_looksAt_25 (by decide) ?_
      obtain ⟨σ_5, h_6, h⟩ := bv_at h
      refine q_afterV hw (q_runV C hw hl.1 (As := [.int x2, .int x3, .int ((2 : Int32) * x4), .int (0 : Int32), .int (0 : Int32)]) (rest := []) (m_X12_hourOf l E x2 x3 ((2 : Int32) * x4) (0 : Int32) (0 : Int32) σ σ_5 h_6) yq_X12_hourOf tM_0 rfl rfl kw_1228 ⟨Nat.le_of_ble_eq_true rfl, Nat.le_of_ble_eq_true rfl⟩ rfl (Nat.le_of_ble_eq_true rfl) ⟨Nat.zero_le _, Nat.zero_le _⟩ dX12_looksAt_26) (fun H locs hw => ?_)
      refine lv_aload_n hx hb dX12_looksAt_29 rfl (lv_at hl 0 rfl) ?_
      refine gf_12_33 C hw tM_0 kw_1051 dX12_looksAt_30 ?_
      refine lv_bipush (v := 24) hx hb dX12_looksAt_33 (by decide) ?_
      refine lv_iload_n hx hb dX12_looksAt_35 rfl (lv_at hl 1 rfl) ?_
      refine lv_imul hx hb dX12_looksAt_36 ?_
      refine lv_iconst (v := 4) hx hb dX12_looksAt_37 (by decide) ?_
      refine lv_iload_n hx hb dX12_looksAt_38 rfl (lv_at hl 3 rfl) ?_
      refine lv_imul hx hb dX12_looksAt_39 ?_
      refine lv_iadd hx hb dX12_looksAt_40 ?_
      refine lv_iload hx hb dX12_looksAt_41 (lv_at hl 4 rfl) ?_
      refine lv_iadd hx hb dX12_looksAt_43 ?_
      refine lv_aload_n hx hb dX12_looksAt_44 rfl (lv_at hl 0 rfl) ?_
      refine gf_12_13 C hw tM_0 kw_1031 dX12_looksAt_45 ?_
      obtain ⟨g_8, h⟩ := gd_at h
      obtain ⟨σ_7, eσ_7, h⟩ := lt_at h
      refine q_iast C hw tM_14 g_8 eσ_7 dX12_looksAt_48 (fun H locs hw => ?_)
      obtain ⟨x4_9, ex4_9, h⟩ := lt_at h
      refine lv_iinc (v := x4_9) (lv' := [(4, .int x4_9), (0, .ref (E.2.1 (0))), (1, .int x1), (2, .int x2), (3, .int x3)]) hx hb dX12_looksAt_49 hl (k := 4) rfl (by rw [ex4_9]; rfl) (by decide) rfl (fun ls hl => ?_)
      refine lv_goto (tgt := 11) hx hb dX12_looksAt_52 (by decide) ?_
      exact hk11 _ _ _ _ _ _ _ _ hw (lv_sub hl [1, 2, 3, 4, 0] rfl) h
set_option maxHeartbeats 4000000 in
set_option maxRecDepth 100000 in
theorem w_X12_looksAt_2 {p : Program} {l : Launch} {e : Env} {s : State} {m : MethodId} {args : Array Value} {below : List Frame} {meth : Method} {c : Code} {E : EV} {τ : Mem} (C : Cx E p s m args meth c cX12_looksAt 5 none RX12) : ∀ (n : Nat) (x1 : Int32) (x2 : Int32) (x3 : Int32) (σ : Mem) (H : Heap) (locs : List Loc) (ls : Array Slot) (hw : Wd TM E σ s H locs) (hl : lv_has ls 5 [(0, .ref (E.2.1 (0))), (1, .int x1), (2, .int x2), (3, .int x3)]) (h : fx4 (f_X12_looksAt_2) n x1 x2 x3 σ = some τ), W p l e { frames := 3, cells := 0, slots := 0, locals := 81 } s m args below meth c H locs 0 0 (MQ below (QV TM E τ) args s 0 0 E.2.2.1) (F0 m 2 ls []) := by
  obtain ⟨hx, hb, hml, hown, hts, hK, hSt, hlk, hr⟩ := id C
  intro n
  induction n with
  | zero =>
    intro x1 x2 x3 σ H locs ls hw hl h
    have h : none = some τ := h
    cases h
  | succ n hk2 =>
    intro x1 x2 x3 σ H locs ls hw hl h
    replace h : f_X12_looksAt_2 (fx4 (f_X12_looksAt_2) n) x1 x2 x3 σ = some τ := h
    unfold f_X12_looksAt_2 at h
    refine lv_iload_n hx hb dX12_looksAt_2 rfl (lv_at hl 3 rfl) ?_
    refine lv_bipush (v := 6) hx hb dX12_looksAt_3 (by decide) ?_
    refine lv_icmp_ge (tgt := 61) hx hb dX12_looksAt_5 (by decide) (fun c_1 => ?_) (fun c_1 => ?_)
    · replace h := it_at h c_1
      cases h
      exact q_vret C hw dX12_looksAt_61
    · replace h := ie_at h c_1
      refine lv_iconst (v := 0) hx hb dX12_looksAt_8 (by decide) ?_
      refine lv_istore (lv' := [(4, .int (0 : Int32)), (0, .ref (E.2.1 (0))), (1, .int x1), (2, .int x2), (3, .int x3)]) hx hb dX12_looksAt_9 hl (by decide) rfl (fun ls hl => ?_)
      exact w_X12_looksAt_11 C _ hk2 _ _ _ _ _ _ _ _ _ hw (lv_sub hl [1, 2, 3, 4, 0] rfl) h
set_option maxHeartbeats 4000000 in
set_option maxRecDepth 100000 in
theorem m_X12_looksAt (l : Launch) (E : EV) (p1 : Int32) (p2 : Int32) (σ : Mem) (τ : Mem) (h : f_X12_looksAt p1 p2 σ = some τ) : MV TM l E yX12_looksAt cX12_looksAt 5 none 3 81 [.ref (E.2.1 (0)), .int p1, .int p2] σ τ := by
  refine mt_start RX12 (by decide +kernel) rfl (Nat.le_of_ble_eq_true rfl) (fun p e s m args below meth c ls C hw hl => ?_)
  replace hl : lv_has ls 5 [(0, .ref (E.2.1 (0))), (1, .int p1), (2, .int p2)] := hl
  obtain ⟨hx, hb, hml, hown, hts, hK, hSt, hlk, hr⟩ := id C
  unfold f_X12_looksAt at h
  refine lv_iconst (v := 0) hx hb dX12_looksAt_0 (by decide) ?_
  refine lv_istore_n (lv' := [(3, .int (0 : Int32)), (0, .ref (E.2.1 (0))), (1, .int p1), (2, .int p2)]) hx hb dX12_looksAt_1 rfl hl (by decide) rfl (fun ls hl => ?_)
  exact w_X12_looksAt_2 C _ _ _ _ _ _ _ _ hw (lv_sub hl [1, 2, 3, 0] rfl) h
def f_X12_mean_99 (s1 : Int32) (s2 : Int32) (s3 : Int32) (s4 : Int32) (s5 : Int32) (s6 : Int32) (s7 : Int32) (σ : Mem) : Option (Int64 × Mem) :=
  bd (f_X12_meanBy s1 s2 s3 s4 s5 s6 s7 σ) fun r_28 σ_29 =>
  some (r_28, σ_29)
def f_X12_mean (p1 : Int32) (p2 : Int32) (p3 : Int32) (p4 : Int32) (σ : Mem) : Option (Int64 × Mem) :=
  bd (f_X12_isRule p1 σ) fun r_1 σ_2 =>
  if r_1 = 0 then
    (some ((-9223372036854775808 : Int64), σ_2))
  else
    bd (f_X12_in p2 (1 : Int32) (6 : Int32) σ_2) fun r_5 σ_6 =>
    if r_5 = 0 then
      (some ((-9223372036854775808 : Int64), σ_6))
    else
      bd (f_X12_isWind p3 σ_6) fun r_9 σ_10 =>
      if r_9 = 0 then
        (some ((-9223372036854775808 : Int64), σ_10))
      else
        bd (f_X12_in p4 (0 : Int32) (1 : Int32) σ_10) fun r_13 σ_14 =>
        if r_13 = 0 then
          (some ((-9223372036854775808 : Int64), σ_14))
        else
          bd (f_X12_isLed σ_14) fun r_17 σ_18 =>
          if r_17 = 0 then
            (some ((-9223372036854775808 : Int64), σ_18))
          else
            if (gI σ_18 1 10) = (1 : Int32) then
              (some ((0 : Int64), σ_18))
            else
              bv (f_X12_begins σ_18) fun σ_23 =>
              gd (ib ((887 : Int32) + p1) 1055) <|
              gd (ib ((897 : Int32) + p1) 1055) <|
              if p4 = (1 : Int32) then
                (f_X12_mean_99 (gI σ_23 1 ((887 : Int32) + p1).toNatClampNeg) (gI σ_23 1 ((897 : Int32) + p1).toNatClampNeg) p1 p2 p3 (-1 : Int32) (1 : Int32) σ_23)
              else
                f_X12_mean_99 (gI σ_23 1 ((887 : Int32) + p1).toNatClampNeg) (gI σ_23 1 ((897 : Int32) + p1).toNatClampNeg) p1 p2 p3 (-1 : Int32) (0 : Int32) σ_23
set_option maxHeartbeats 4000000 in
set_option maxRecDepth 100000 in
theorem w_X12_mean_99 {p : Program} {l : Launch} {e : Env} {s : State} {m : MethodId} {args : Array Value} {below : List Frame} {meth : Method} {c : Code} {E : EV} {rr : Int64} {τ : Mem} (C : Cx E p s m args meth c cX12_mean 5 (some .long) RX12) : ∀ (s1 : Int32) (s2 : Int32) (s3 : Int32) (s4 : Int32) (s5 : Int32) (s6 : Int32) (s7 : Int32) (σ : Mem) (H : Heap) (locs : List Loc) (ls : Array Slot) (hw : Wd TM E σ s H locs) (hl : lv_has ls 5 [(0, .ref (E.2.1 (0)))]) (h : f_X12_mean_99 s1 s2 s3 s4 s5 s6 s7 σ = some (rr, τ)), W p l e { frames := 250, cells := 0, slots := 0, locals := 9415 } s m args below meth c H locs 0 0 (MQ below (QL TM E rr τ) args s 0 0 E.2.2.1) (F0 m 99 ls [.int s7, .int s6, .int s5, .int s4, .int s3, .int s2, .int s1, .ref (E.2.1 (0))]) := by
  obtain ⟨hx, hb, hml, hown, hts, hK, hSt, hlk, hr⟩ := id C
  intro s1 s2 s3 s4 s5 s6 s7 σ H locs ls hw hl h
  unfold f_X12_mean_99 at h
  obtain ⟨r_28, σ_29, h_30, h⟩ := bd_at h
  refine q_afterL hw (q_runV C hw hl.1 (As := [.int s1, .int s2, .int s3, .int s4, .int s5, .int s6, .int s7]) (rest := []) (m_X12_meanBy l E s1 s2 s3 s4 s5 s6 s7 σ r_28 σ_29 h_30) yq_X12_meanBy tM_0 rfl rfl kw_1313 ⟨Nat.le_of_ble_eq_true rfl, Nat.le_of_ble_eq_true rfl⟩ rfl (Nat.le_of_ble_eq_true rfl) ⟨Nat.zero_le _, Nat.zero_le _⟩ dX12_mean_99) (fun H locs hw => ?_)
  obtain ⟨rfl, rfl⟩ := ret_at h
  exact q_lret C hw dX12_mean_102
set_option maxHeartbeats 4000000 in
set_option maxRecDepth 100000 in
theorem m_X12_mean (l : Launch) (E : EV) (p1 : Int32) (p2 : Int32) (p3 : Int32) (p4 : Int32) (σ : Mem) (rr : Int64) (τ : Mem) (h : f_X12_mean p1 p2 p3 p4 σ = some (rr, τ)) : ML TM l E yX12_mean cX12_mean 5 (some .long) 250 9415 [.ref (E.2.1 (0)), .int p1, .int p2, .int p3, .int p4] σ rr τ := by
  refine mt_start RX12 (by decide +kernel) rfl (Nat.le_of_ble_eq_true rfl) (fun p e s m args below meth c ls C hw hl => ?_)
  replace hl : lv_has ls 5 [(0, .ref (E.2.1 (0))), (1, .int p1), (2, .int p2), (3, .int p3), (4, .int p4)] := hl
  obtain ⟨hx, hb, hml, hown, hts, hK, hSt, hlk, hr⟩ := id C
  unfold f_X12_mean at h
  refine lv_aload_n hx hb dX12_mean_0 rfl (lv_at hl 0 rfl) ?_
  refine lv_iload_n hx hb dX12_mean_1 rfl (lv_at hl 1 rfl) ?_
  obtain ⟨r_1, σ_2, h_3, h⟩ := bd_at h
  refine q_afterI hw (q_runV C hw hl.1 (As := [.int p1]) (rest := []) (m_X12_isRule l E p1 σ r_1 σ_2 h_3) yq_X12_isRule tM_0 rfl rfl kw_1267 ⟨Nat.le_of_ble_eq_true rfl, Nat.le_of_ble_eq_true rfl⟩ rfl (Nat.le_of_ble_eq_true rfl) ⟨Nat.zero_le _, Nat.zero_le _⟩ dX12_mean_2) (fun H locs hw => ?_)
  refine lv_if_eq (tgt := 42) hx hb dX12_mean_5 (by decide) (fun c_4 => ?_) (fun c_4 => ?_)
  · replace h := it_at h c_4
    refine lv_ldc2 hx hb hown (hts _ kw_1312) dX12_mean_42 ?_
    obtain ⟨rfl, rfl⟩ := ret_at h
    exact q_lret C hw dX12_mean_45
  · replace h := ie_at h c_4
    refine lv_iload_n hx hb dX12_mean_8 rfl (lv_at hl 2 rfl) ?_
    refine lv_iconst (v := 1) hx hb dX12_mean_9 (by decide) ?_
    refine lv_bipush (v := 6) hx hb dX12_mean_10 (by decide) ?_
    obtain ⟨r_5, σ_6, h_7, h⟩ := bd_at h
    refine q_afterI hw (q_runS C hw hl.1 (As := [.int p2, .int (1 : Int32), .int (6 : Int32)]) (rest := []) (m_X12_in l E p2 (1 : Int32) (6 : Int32) σ_2 r_5 σ_6 h_7) yq_X12_in kw_1142 ⟨Nat.le_of_ble_eq_true rfl, Nat.le_of_ble_eq_true rfl⟩ rfl (Nat.le_of_ble_eq_true rfl) ⟨Nat.zero_le _, Nat.zero_le _⟩ dX12_mean_12) (fun H locs hw => ?_)
    refine lv_if_eq (tgt := 42) hx hb dX12_mean_15 (by decide) (fun c_8 => ?_) (fun c_8 => ?_)
    · replace h := it_at h c_8
      refine lv_ldc2 hx hb hown (hts _ kw_1312) dX12_mean_42 ?_
      obtain ⟨rfl, rfl⟩ := ret_at h
      exact q_lret C hw dX12_mean_45
    · replace h := ie_at h c_8
      refine lv_iload_n hx hb dX12_mean_18 rfl (lv_at hl 3 rfl) ?_
      obtain ⟨r_9, σ_10, h_11, h⟩ := bd_at h
      refine q_afterI hw (q_runS C hw hl.1 (As := [.int p3]) (rest := []) (m_X12_isWind l E p3 σ_6 r_9 σ_10 h_11) yq_X12_isWind kw_1217 ⟨Nat.le_of_ble_eq_true rfl, Nat.le_of_ble_eq_true rfl⟩ rfl (Nat.le_of_ble_eq_true rfl) ⟨Nat.zero_le _, Nat.zero_le _⟩ dX12_mean_19) (fun H locs hw => ?_)
      refine lv_if_eq (tgt := 42) hx hb dX12_mean_22 (by decide) (fun c_12 => ?_) (fun c_12 => ?_)
      · replace h := it_at h c_12
        refine lv_ldc2 hx hb hown (hts _ kw_1312) dX12_mean_42 ?_
        obtain ⟨rfl, rfl⟩ := ret_at h
        exact q_lret C hw dX12_mean_45
      · replace h := ie_at h c_12
        refine lv_iload hx hb dX12_mean_25 (lv_at hl 4 rfl) ?_
        refine lv_iconst (v := 0) hx hb dX12_mean_27 (by decide) ?_
        refine lv_iconst (v := 1) hx hb dX12_mean_28 (by decide) ?_
        obtain ⟨r_13, σ_14, h_15, h⟩ := bd_at h
        refine q_afterI hw (q_runS C hw hl.1 (As := [.int p4, .int (0 : Int32), .int (1 : Int32)]) (rest := []) (m_X12_in l E p4 (0 : Int32) (1 : Int32) σ_10 r_13 σ_14 h_15) yq_X12_in kw_1142 ⟨Nat.le_of_ble_eq_true rfl, Nat.le_of_ble_eq_true rfl⟩ rfl (Nat.le_of_ble_eq_true rfl) ⟨Nat.zero_le _, Nat.zero_le _⟩ dX12_mean_29) (fun H locs hw => ?_)
        refine lv_if_eq (tgt := 42) hx hb dX12_mean_32 (by decide) (fun c_16 => ?_) (fun c_16 => ?_)
        · replace h := it_at h c_16
          refine lv_ldc2 hx hb hown (hts _ kw_1312) dX12_mean_42 ?_
          obtain ⟨rfl, rfl⟩ := ret_at h
          exact q_lret C hw dX12_mean_45
        · replace h := ie_at h c_16
          refine lv_aload_n hx hb dX12_mean_35 rfl (lv_at hl 0 rfl) ?_
          obtain ⟨r_17, σ_18, h_19, h⟩ := bd_at h
          refine q_afterI hw (q_runV C hw hl.1 (As := []) (rest := []) (m_X12_isLed l E  σ_14 r_17 σ_18 h_19) yq_X12_isLed tM_0 rfl rfl kw_1251 ⟨Nat.le_of_ble_eq_true rfl, Nat.le_of_ble_eq_true rfl⟩ rfl (Nat.le_of_ble_eq_true rfl) ⟨Nat.zero_le _, Nat.zero_le _⟩ dX12_mean_36) (fun H locs hw => ?_)
          refine lv_if_ne (tgt := 46) hx hb dX12_mean_39 (by decide) (fun c_20 => ?_) (fun c_20 => ?_)
          · replace h := ie_at h c_20
            refine lv_aload_n hx hb dX12_mean_46 rfl (lv_at hl 0 rfl) ?_
            refine gf_12_1 C hw tM_0 kw_1019 dX12_mean_47 ?_
            refine lv_bipush (v := 10) hx hb dX12_mean_50 (by decide) ?_
            refine q_ialdk C hw tM_1 (k := 10) (by rfl) (by decide) (by decide) dX12_mean_52 ?_
            refine lv_iconst (v := 1) hx hb dX12_mean_53 (by decide) ?_
            refine lv_icmp_ne (tgt := 59) hx hb dX12_mean_54 (by decide) (fun c_21 => ?_) (fun c_21 => ?_)
            · replace h := ie_at h c_21
              refine lv_aload_n hx hb dX12_mean_59 rfl (lv_at hl 0 rfl) ?_
              obtain ⟨σ_23, h_24, h⟩ := bv_at h
              refine q_afterV hw (q_runV C hw hl.1 (As := []) (rest := []) (m_X12_begins l E  σ_18 σ_23 h_24) yq_X12_begins tM_0 rfl rfl kw_1275 ⟨Nat.le_of_ble_eq_true rfl, Nat.le_of_ble_eq_true rfl⟩ rfl (Nat.le_of_ble_eq_true rfl) ⟨Nat.zero_le _, Nat.zero_le _⟩ dX12_mean_60) (fun H locs hw => ?_)
              refine lv_aload_n hx hb dX12_mean_63 rfl (lv_at hl 0 rfl) ?_
              refine lv_aload_n hx hb dX12_mean_64 rfl (lv_at hl 0 rfl) ?_
              refine gf_12_1 C hw tM_0 kw_1019 dX12_mean_65 ?_
              refine lv_sipush (v := 887) hx hb dX12_mean_68 (by decide) ?_
              refine lv_iload_n hx hb dX12_mean_71 rfl (lv_at hl 1 rfl) ?_
              refine lv_iadd hx hb dX12_mean_72 ?_
              obtain ⟨g_25, h⟩ := gd_at h
              refine q_iald C hw tM_1 g_25 dX12_mean_73 ?_
              refine lv_aload_n hx hb dX12_mean_74 rfl (lv_at hl 0 rfl) ?_
              refine gf_12_1 C hw tM_0 kw_1019 dX12_mean_75 ?_
              refine lv_sipush (v := 897) hx hb dX12_mean_78 (by decide) ?_
              refine lv_iload_n hx hb dX12_mean_81 rfl (lv_at hl 1 rfl) ?_
              refine lv_iadd hx hb dX12_mean_82 ?_
              obtain ⟨g_26, h⟩ := gd_at h
              refine q_iald C hw tM_1 g_26 dX12_mean_83 ?_
              refine lv_iload_n hx hb dX12_mean_84 rfl (lv_at hl 1 rfl) ?_
              refine lv_iload_n hx hb dX12_mean_85 rfl (lv_at hl 2 rfl) ?_
              refine lv_iload_n hx hb dX12_mean_86 rfl (lv_at hl 3 rfl) ?_
              refine lv_iconst (v := (-1)) hx hb dX12_mean_87 (by decide) ?_
              refine lv_iload hx hb dX12_mean_88 (lv_at hl 4 rfl) ?_
              refine lv_iconst (v := 1) hx hb dX12_mean_90 (by decide) ?_
              refine lv_icmp_ne (tgt := 98) hx hb dX12_mean_91 (by decide) (fun c_27 => ?_) (fun c_27 => ?_)
              · replace h := ie_at h c_27
                refine lv_iconst (v := 0) hx hb dX12_mean_98 (by decide) ?_
                exact w_X12_mean_99 C _ _ _ _ _ _ _ _ _ _ _ hw (lv_sub hl [0] rfl) h
              · replace h := it_at h c_27
                refine lv_iconst (v := 1) hx hb dX12_mean_94 (by decide) ?_
                refine lv_goto (tgt := 99) hx hb dX12_mean_95 (by decide) ?_
                exact w_X12_mean_99 C _ _ _ _ _ _ _ _ _ _ _ hw (lv_sub hl [0] rfl) h
            · replace h := it_at h c_21
              refine lv_lconst (v := 0) hx hb dX12_mean_57 (by decide) ?_
              obtain ⟨rfl, rfl⟩ := ret_at h
              exact q_lret C hw dX12_mean_58
          · replace h := it_at h c_20
            refine lv_ldc2 hx hb hown (hts _ kw_1312) dX12_mean_42 ?_
            obtain ⟨rfl, rfl⟩ := ret_at h
            exact q_lret C hw dX12_mean_45
def f_X12_order (p1 : Int32) (p2 : Int32) (p3 : Int32) (σ : Mem) : Option (Int32 × Mem) :=
  bd (f_X12_in p1 (1 : Int32) (20 : Int32) σ) fun r_1 σ_2 =>
  if r_1 = 0 then
    (some ((-2 : Int32), σ_2))
  else
    bd (f_X12_in p2 (1 : Int32) (99 : Int32) σ_2) fun r_5 σ_6 =>
    if r_5 = 0 then
      (some ((-2 : Int32), σ_6))
    else
      bd (f_X12_in p3 (0 : Int32) (99 : Int32) σ_6) fun r_9 σ_10 =>
      if r_9 = 0 then
        (some ((-2 : Int32), σ_10))
      else
        if (gI σ_10 1 3) = (6 : Int32) then
          (some ((-4 : Int32), σ_10))
        else
          lt (gI σ_10 1 3) fun x4_14 =>
          gd (ib ((1037 : Int32) + x4_14) 1055) <|
          lt (sI σ_10 1 ((1037 : Int32) + x4_14).toNatClampNeg p1) fun σ_15 =>
          gd (ib ((1043 : Int32) + x4_14) 1055) <|
          lt (sI σ_15 1 ((1043 : Int32) + x4_14).toNatClampNeg p2) fun σ_17 =>
          gd (ib ((1049 : Int32) + x4_14) 1055) <|
          lt (sI σ_17 1 ((1049 : Int32) + x4_14).toNatClampNeg p3) fun σ_19 =>
          lt (sI σ_19 1 3 ((gI σ_19 1 3) + (1 : Int32))) fun σ_21 =>
          some (x4_14, σ_21)
set_option maxHeartbeats 4000000 in
set_option maxRecDepth 100000 in
theorem m_X12_order (l : Launch) (E : EV) (p1 : Int32) (p2 : Int32) (p3 : Int32) (σ : Mem) (rr : Int32) (τ : Mem) (h : f_X12_order p1 p2 p3 σ = some (rr, τ)) : MI TM l E yX12_order cX12_order 5 (some .int) 1 22 [.ref (E.2.1 (0)), .int p1, .int p2, .int p3] σ rr τ := by
  refine mt_start RX12 (by decide +kernel) rfl (Nat.le_of_ble_eq_true rfl) (fun p e s m args below meth c ls C hw hl => ?_)
  replace hl : lv_has ls 5 [(0, .ref (E.2.1 (0))), (1, .int p1), (2, .int p2), (3, .int p3)] := hl
  obtain ⟨hx, hb, hml, hown, hts, hK, hSt, hlk, hr⟩ := id C
  unfold f_X12_order at h
  refine lv_iload_n hx hb dX12_order_0 rfl (lv_at hl 1 rfl) ?_
  refine lv_iconst (v := 1) hx hb dX12_order_1 (by decide) ?_
  refine lv_bipush (v := 20) hx hb dX12_order_2 (by decide) ?_
  obtain ⟨r_1, σ_2, h_3, h⟩ := bd_at h
  refine q_afterI hw (q_runS C hw hl.1 (As := [.int p1, .int (1 : Int32), .int (20 : Int32)]) (rest := []) (m_X12_in l E p1 (1 : Int32) (20 : Int32) σ r_1 σ_2 h_3) yq_X12_in kw_1142 ⟨Nat.le_of_ble_eq_true rfl, Nat.le_of_ble_eq_true rfl⟩ rfl (Nat.le_of_ble_eq_true rfl) ⟨Nat.zero_le _, Nat.zero_le _⟩ dX12_order_4) (fun H locs hw => ?_)
  refine lv_if_eq (tgt := 30) hx hb dX12_order_7 (by decide) (fun c_4 => ?_) (fun c_4 => ?_)
  · replace h := it_at h c_4
    refine lv_bipush (v := (-2)) hx hb dX12_order_30 (by decide) ?_
    obtain ⟨rfl, rfl⟩ := ret_at h
    exact q_iret C hw dX12_order_32
  · replace h := ie_at h c_4
    refine lv_iload_n hx hb dX12_order_10 rfl (lv_at hl 2 rfl) ?_
    refine lv_iconst (v := 1) hx hb dX12_order_11 (by decide) ?_
    refine lv_bipush (v := 99) hx hb dX12_order_12 (by decide) ?_
    obtain ⟨r_5, σ_6, h_7, h⟩ := bd_at h
    refine q_afterI hw (q_runS C hw hl.1 (As := [.int p2, .int (1 : Int32), .int (99 : Int32)]) (rest := []) (m_X12_in l E p2 (1 : Int32) (99 : Int32) σ_2 r_5 σ_6 h_7) yq_X12_in kw_1142 ⟨Nat.le_of_ble_eq_true rfl, Nat.le_of_ble_eq_true rfl⟩ rfl (Nat.le_of_ble_eq_true rfl) ⟨Nat.zero_le _, Nat.zero_le _⟩ dX12_order_14) (fun H locs hw => ?_)
    refine lv_if_eq (tgt := 30) hx hb dX12_order_17 (by decide) (fun c_8 => ?_) (fun c_8 => ?_)
    · replace h := it_at h c_8
      refine lv_bipush (v := (-2)) hx hb dX12_order_30 (by decide) ?_
      obtain ⟨rfl, rfl⟩ := ret_at h
      exact q_iret C hw dX12_order_32
    · replace h := ie_at h c_8
      refine lv_iload_n hx hb dX12_order_20 rfl (lv_at hl 3 rfl) ?_
      refine lv_iconst (v := 0) hx hb dX12_order_21 (by decide) ?_
      refine lv_bipush (v := 99) hx hb dX12_order_22 (by decide) ?_
      obtain ⟨r_9, σ_10, h_11, h⟩ := bd_at h
      refine q_afterI hw (q_runS C hw hl.1 (As := [.int p3, .int (0 : Int32), .int (99 : Int32)]) (rest := []) (m_X12_in l E p3 (0 : Int32) (99 : Int32) σ_6 r_9 σ_10 h_11) yq_X12_in kw_1142 ⟨Nat.le_of_ble_eq_true rfl, Nat.le_of_ble_eq_true rfl⟩ rfl (Nat.le_of_ble_eq_true rfl) ⟨Nat.zero_le _, Nat.zero_le _⟩ dX12_order_24) (fun H locs hw => ?_)
      refine lv_if_ne (tgt := 33) hx hb dX12_order_27 (by decide) (fun c_12 => ?_) (fun c_12 => ?_)
      · replace h := ie_at h c_12
        refine lv_aload_n hx hb dX12_order_33 rfl (lv_at hl 0 rfl) ?_
        refine gf_12_1 C hw tM_0 kw_1019 dX12_order_34 ?_
        refine lv_iconst (v := 3) hx hb dX12_order_37 (by decide) ?_
        refine q_ialdk C hw tM_1 (k := 3) (by rfl) (by decide) (by decide) dX12_order_38 ?_
        refine lv_bipush (v := 6) hx hb dX12_order_39 (by decide) ?_
        refine lv_icmp_ne (tgt := 47) hx hb dX12_order_41 (by decide) (fun c_13 => ?_) (fun c_13 => ?_)
        · replace h := ie_at h c_13
          refine lv_aload_n hx hb dX12_order_47 rfl (lv_at hl 0 rfl) ?_
          refine gf_12_1 C hw tM_0 kw_1019 dX12_order_48 ?_
          refine lv_iconst (v := 3) hx hb dX12_order_51 (by decide) ?_
          refine q_ialdk C hw tM_1 (k := 3) (by rfl) (by decide) (by decide) dX12_order_52 ?_
          obtain ⟨x4_14, ex4_14, h⟩ := lt_at h
          refine q_top ex4_14 ?_
          refine lv_istore (lv' := [(4, .int x4_14), (0, .ref (E.2.1 (0))), (1, .int p1), (2, .int p2), (3, .int p3)]) hx hb dX12_order_53 hl (by decide) rfl (fun ls hl => ?_)
          refine lv_aload_n hx hb dX12_order_55 rfl (lv_at hl 1 rfl) ?_
          refine gf_12_1 C hw tM_0 kw_1019 dX12_order_56 ?_
          refine lv_sipush (v := 1037) hx hb dX12_order_59 (by decide) ?_
          refine lv_iload hx hb dX12_order_62 (lv_at hl 0 rfl) ?_
          refine lv_iadd hx hb dX12_order_64 ?_
          refine lv_iload_n hx hb dX12_order_65 rfl (lv_at hl 2 rfl) ?_
          obtain ⟨g_16, h⟩ := gd_at h
          obtain ⟨σ_15, eσ_15, h⟩ := lt_at h
          refine q_iast C hw tM_1 g_16 eσ_15 dX12_order_66 (fun H locs hw => ?_)
          refine lv_aload_n hx hb dX12_order_67 rfl (lv_at hl 1 rfl) ?_
          refine gf_12_1 C hw tM_0 kw_1019 dX12_order_68 ?_
          refine lv_sipush (v := 1043) hx hb dX12_order_71 (by decide) ?_
          refine lv_iload hx hb dX12_order_74 (lv_at hl 0 rfl) ?_
          refine lv_iadd hx hb dX12_order_76 ?_
          refine lv_iload_n hx hb dX12_order_77 rfl (lv_at hl 3 rfl) ?_
          obtain ⟨g_18, h⟩ := gd_at h
          obtain ⟨σ_17, eσ_17, h⟩ := lt_at h
          refine q_iast C hw tM_1 g_18 eσ_17 dX12_order_78 (fun H locs hw => ?_)
          refine lv_aload_n hx hb dX12_order_79 rfl (lv_at hl 1 rfl) ?_
          refine gf_12_1 C hw tM_0 kw_1019 dX12_order_80 ?_
          refine lv_sipush (v := 1049) hx hb dX12_order_83 (by decide) ?_
          refine lv_iload hx hb dX12_order_86 (lv_at hl 0 rfl) ?_
          refine lv_iadd hx hb dX12_order_88 ?_
          refine lv_iload_n hx hb dX12_order_89 rfl (lv_at hl 4 rfl) ?_
          obtain ⟨g_20, h⟩ := gd_at h
          obtain ⟨σ_19, eσ_19, h⟩ := lt_at h
          refine q_iast C hw tM_1 g_20 eσ_19 dX12_order_90 (fun H locs hw => ?_)
          refine lv_aload_n hx hb dX12_order_91 rfl (lv_at hl 1 rfl) ?_
          refine gf_12_1 C hw tM_0 kw_1019 dX12_order_92 ?_
          refine lv_iconst (v := 3) hx hb dX12_order_95 (by decide) ?_
          refine lv_dup2_11 hx hb dX12_order_96 rfl rfl ?_
          refine q_ialdk C hw tM_1 (k := 3) (by rfl) (by decide) (by decide) dX12_order_97 ?_
          refine lv_iconst (v := 1) hx hb dX12_order_98 (by decide) ?_
          refine lv_iadd hx hb dX12_order_99 ?_
          obtain ⟨σ_21, eσ_21, h⟩ := lt_at h
          refine q_iastk C hw tM_1 (k := 3) (by rfl) (by decide) (by decide) eσ_21 dX12_order_100 (fun H locs hw => ?_)
          refine lv_iload hx hb dX12_order_101 (lv_at hl 0 rfl) ?_
          obtain ⟨rfl, rfl⟩ := ret_at h
          exact q_iret C hw dX12_order_103
        · replace h := it_at h c_13
          refine lv_bipush (v := (-4)) hx hb dX12_order_44 (by decide) ?_
          obtain ⟨rfl, rfl⟩ := ret_at h
          exact q_iret C hw dX12_order_46
      · replace h := it_at h c_12
        refine lv_bipush (v := (-2)) hx hb dX12_order_30 (by decide) ?_
        obtain ⟨rfl, rfl⟩ := ret_at h
        exact q_iret C hw dX12_order_32
def f_X12_ridge_134 (k77 : Int32 → Int32 → Int32 → Int32 → Int32 → Mem → Option (Int32 × Mem)) (x4 : Int32) (x5 : Int32) (x6 : Int32) (x8 : Int32) (s0 : Int32) (σ : Mem) : Option (Int32 × Mem) :=
  lt (x8 + (1 : Int32)) fun x8_49 =>
  k77 x4 x5 x6 s0 x8_49 σ
def f_X12_ridge_108 (k77 : Int32 → Int32 → Int32 → Int32 → Int32 → Mem → Option (Int32 × Mem)) (x4 : Int32) (x5 : Int32) (x7 : Int32) (x8 : Int32) (s0 : Int32) (σ : Mem) : Option (Int32 × Mem) :=
  bd (f_X12_allMeal x4 x8 σ) fun r_45 σ_46 =>
  if r_45 ≤ x7 then
    (f_X12_ridge_134 k77 x4 x5 s0 x8 x7 σ_46)
  else
    f_X12_ridge_134 k77 x4 x5 s0 x8 r_45 σ_46
def f_X12_ridge_106 (k77 : Int32 → Int32 → Int32 → Int32 → Int32 → Mem → Option (Int32 × Mem)) (x4 : Int32) (x5 : Int32) (x6 : Int32) (x7 : Int32) (x8 : Int32) (σ : Mem) : Option (Int32 × Mem) :=
  f_X12_ridge_108 k77 x4 x5 x7 x8 x6 σ
def f_X12_ridge_77 (k77 : Int32 → Int32 → Int32 → Int32 → Int32 → Mem → Option (Int32 × Mem)) (x4 : Int32) (x5 : Int32) (x6 : Int32) (x7 : Int32) (x8 : Int32) (σ : Mem) : Option (Int32 × Mem) :=
  if (64 : Int32) ≤ x8 then
    (if x5 = 0 then
      (if x6 = (-1 : Int32) then
        (some ((-5 : Int32), σ))
      else
        some ((((100 : Int32) * (x6 / (16 : Int32))) + ((10 : Int32) * (irm (x6 / (4 : Int32)) (4 : Int32)))) + (irm x6 (4 : Int32)), σ))
    else
      if x6 = (-1 : Int32) then
        (some ((1 : Int32), σ))
      else
        bd (f_X12_allMeal x4 x6 σ) fun r_36 σ_37 =>
        some (r_36 - x7, σ_37))
  else
    if x6 = (-1 : Int32) then
      (bd (f_X12_isRest x4 x8 σ) fun r_41 σ_42 =>
      if r_41 = 0 then
        (f_X12_ridge_106 k77 x4 x5 x6 x7 x8 σ_42)
      else
        f_X12_ridge_108 k77 x4 x5 x7 x8 x8 σ_42)
    else
      f_X12_ridge_106 k77 x4 x5 x6 x7 x8 σ
def f_X12_ridge (p1 : Int32) (p2 : Int32) (p3 : Int32) (p4 : Int32) (p5 : Int32) (σ : Mem) : Option (Int32 × Mem) :=
  bd (f_X12_isMill p1 σ) fun r_1 σ_2 =>
  if r_1 = 0 then
    (some ((-1 : Int32), σ_2))
  else
    bd (f_X12_isMill p2 σ_2) fun r_5 σ_6 =>
    if r_5 = 0 then
      (some ((-1 : Int32), σ_6))
    else
      bd (f_X12_isMill p3 σ_6) fun r_9 σ_10 =>
      if r_9 = 0 then
        (some ((-1 : Int32), σ_10))
      else
        bd (f_X12_isWind p4 σ_10) fun r_13 σ_14 =>
        if r_13 = 0 then
          (some ((-1 : Int32), σ_14))
        else
          bd (f_X12_in p5 (0 : Int32) (1 : Int32) σ_14) fun r_17 σ_18 =>
          if r_17 = 0 then
            (some ((-1 : Int32), σ_18))
          else
            bv (f_X12_looksAt (0 : Int32) p1 σ_18) fun σ_22 =>
            bv (f_X12_looksAt (1 : Int32) p2 σ_22) fun σ_25 =>
            bv (f_X12_looksAt (2 : Int32) p3 σ_25) fun σ_28 =>
            bd (f_X12_allMeal p4 (0 : Int32) σ_28) fun r_30 σ_31 =>
            fx6 (f_X12_ridge_77) FU p4 p5 (-1 : Int32) r_30 (0 : Int32) σ_31
set_option maxHeartbeats 4000000 in
set_option maxRecDepth 100000 in
theorem w_X12_ridge_134 {p : Program} {l : Launch} {e : Env} {s : State} {m : MethodId} {args : Array Value} {below : List Frame} {meth : Method} {c : Code} {E : EV} {rr : Int32} {τ : Mem} (C : Cx E p s m args meth c cX12_ridge 10 (some .int) RX12) (k77 : Int32 → Int32 → Int32 → Int32 → Int32 → Mem → Option (Int32 × Mem)) (hk77 : ∀ (x4 : Int32) (x5 : Int32) (x6 : Int32) (x7 : Int32) (x8 : Int32) (σ : Mem) (H : Heap) (locs : List Loc) (ls : Array Slot) (hw : Wd TM E σ s H locs) (hl : lv_has ls 10 [(0, .ref (E.2.1 (0))), (4, .int x4), (5, .int x5), (6, .int x6), (7, .int x7), (8, .int x8)]) (h : k77 x4 x5 x6 x7 x8 σ = some (rr, τ)), W p l e { frames := 4, cells := 0, slots := 0, locals := 105 } s m args below meth c H locs 0 0 (MQ below (QI TM E rr τ) args s 0 0 E.2.2.1) (F0 m 77 ls [])) : ∀ (x4 : Int32) (x5 : Int32) (x6 : Int32) (x8 : Int32) (s0 : Int32) (σ : Mem) (H : Heap) (locs : List Loc) (ls : Array Slot) (hw : Wd TM E σ s H locs) (hl : lv_has ls 10 [(0, .ref (E.2.1 (0))), (4, .int x4), (5, .int x5), (6, .int x6), (8, .int x8)]) (h : f_X12_ridge_134 k77 x4 x5 x6 x8 s0 σ = some (rr, τ)), W p l e { frames := 4, cells := 0, slots := 0, locals := 105 } s m args below meth c H locs 0 0 (MQ below (QI TM E rr τ) args s 0 0 E.2.2.1) (F0 m 134 ls [.int s0]) := by
  obtain ⟨hx, hb, hml, hown, hts, hK, hSt, hlk, hr⟩ := id C
  intro x4 x5 x6 x8 s0 σ H locs ls hw hl h
  unfold f_X12_ridge_134 at h
  refine lv_istore (lv' := [(7, .int s0), (0, .ref (E.2.1 (0))), (4, .int x4), (5, .int x5), (6, .int x6), (8, .int x8)]) hx hb dX12_ridge_134 hl (by decide) rfl (fun ls hl => ?_)
  obtain ⟨x8_49, ex8_49, h⟩ := lt_at h
  refine lv_iinc (v := x8_49) (lv' := [(8, .int x8_49), (7, .int s0), (0, .ref (E.2.1 (0))), (4, .int x4), (5, .int x5), (6, .int x6)]) hx hb dX12_ridge_136 hl (k := 5) rfl (by rw [ex8_49]; rfl) (by decide) rfl (fun ls hl => ?_)
  refine lv_goto (tgt := 77) hx hb dX12_ridge_139 (by decide) ?_
  exact hk77 _ _ _ _ _ _ _ _ _ hw (lv_sub hl [2, 3, 4, 5, 1, 0] rfl) h
set_option maxHeartbeats 4000000 in
set_option maxRecDepth 100000 in
theorem w_X12_ridge_108 {p : Program} {l : Launch} {e : Env} {s : State} {m : MethodId} {args : Array Value} {below : List Frame} {meth : Method} {c : Code} {E : EV} {rr : Int32} {τ : Mem} (C : Cx E p s m args meth c cX12_ridge 10 (some .int) RX12) (k77 : Int32 → Int32 → Int32 → Int32 → Int32 → Mem → Option (Int32 × Mem)) (hk77 : ∀ (x4 : Int32) (x5 : Int32) (x6 : Int32) (x7 : Int32) (x8 : Int32) (σ : Mem) (H : Heap) (locs : List Loc) (ls : Array Slot) (hw : Wd TM E σ s H locs) (hl : lv_has ls 10 [(0, .ref (E.2.1 (0))), (4, .int x4), (5, .int x5), (6, .int x6), (7, .int x7), (8, .int x8)]) (h : k77 x4 x5 x6 x7 x8 σ = some (rr, τ)), W p l e { frames := 4, cells := 0, slots := 0, locals := 105 } s m args below meth c H locs 0 0 (MQ below (QI TM E rr τ) args s 0 0 E.2.2.1) (F0 m 77 ls [])) : ∀ (x4 : Int32) (x5 : Int32) (x7 : Int32) (x8 : Int32) (s0 : Int32) (σ : Mem) (H : Heap) (locs : List Loc) (ls : Array Slot) (hw : Wd TM E σ s H locs) (hl : lv_has ls 10 [(0, .ref (E.2.1 (0))), (4, .int x4), (5, .int x5), (7, .int x7), (8, .int x8)]) (h : f_X12_ridge_108 k77 x4 x5 x7 x8 s0 σ = some (rr, τ)), W p l e { frames := 4, cells := 0, slots := 0, locals := 105 } s m args below meth c H locs 0 0 (MQ below (QI TM E rr τ) args s 0 0 E.2.2.1) (F0 m 108 ls [.int s0]) := by
  obtain ⟨hx, hb, hml, hown, hts, hK, hSt, hlk, hr⟩ := id C
  intro x4 x5 x7 x8 s0 σ H locs ls hw hl h
  unfold f_X12_ridge_108 at h
  refine lv_istore (lv' := [(6, .int s0), (0, .ref (E.2.1 (0))), (4, .int x4), (5, .int x5), (7, .int x7), (8, .int x8)]) hx hb dX12_ridge_108 hl (by decide) rfl (fun ls hl => ?_)
  refine lv_aload_n hx hb dX12_ridge_110 rfl (lv_at hl 1 rfl) ?_
  refine lv_iload hx hb dX12_ridge_111 (lv_at hl 2 rfl) ?_
  refine lv_iload hx hb dX12_ridge_113 (lv_at hl 5 rfl) ?_
  obtain ⟨r_45, σ_46, h_47, h⟩ := bd_at h
  refine q_afterI hw (q_runV C hw hl.1 (As := [.int x4, .int x8]) (rest := []) (m_X12_allMeal l E x4 x8 σ r_45 σ_46 h_47) yq_X12_allMeal tM_0 rfl rfl kw_1378 ⟨Nat.le_of_ble_eq_true rfl, Nat.le_of_ble_eq_true rfl⟩ rfl (Nat.le_of_ble_eq_true rfl) ⟨Nat.zero_le _, Nat.zero_le _⟩ dX12_ridge_115) (fun H locs hw => ?_)
  refine lv_istore (lv' := [(9, .int r_45), (6, .int s0), (0, .ref (E.2.1 (0))), (4, .int x4), (5, .int x5), (7, .int x7), (8, .int x8)]) hx hb dX12_ridge_118 hl (by decide) rfl (fun ls hl => ?_)
  refine lv_iload hx hb dX12_ridge_120 (lv_at hl 0 rfl) ?_
  refine lv_iload hx hb dX12_ridge_122 (lv_at hl 5 rfl) ?_
  refine lv_icmp_le (tgt := 132) hx hb dX12_ridge_124 (by decide) (fun c_48 => ?_) (fun c_48 => ?_)
  · replace h := it_at h c_48
    refine lv_iload hx hb dX12_ridge_132 (lv_at hl 5 rfl) ?_
    exact w_X12_ridge_134 C _ hk77 _ _ _ _ _ _ _ _ _ hw (lv_sub hl [2, 3, 4, 1, 6] rfl) h
  · replace h := ie_at h c_48
    refine lv_iload hx hb dX12_ridge_127 (lv_at hl 0 rfl) ?_
    refine lv_goto (tgt := 134) hx hb dX12_ridge_129 (by decide) ?_
    exact w_X12_ridge_134 C _ hk77 _ _ _ _ _ _ _ _ _ hw (lv_sub hl [2, 3, 4, 1, 6] rfl) h
set_option maxHeartbeats 4000000 in
set_option maxRecDepth 100000 in
theorem w_X12_ridge_106 {p : Program} {l : Launch} {e : Env} {s : State} {m : MethodId} {args : Array Value} {below : List Frame} {meth : Method} {c : Code} {E : EV} {rr : Int32} {τ : Mem} (C : Cx E p s m args meth c cX12_ridge 10 (some .int) RX12) (k77 : Int32 → Int32 → Int32 → Int32 → Int32 → Mem → Option (Int32 × Mem)) (hk77 : ∀ (x4 : Int32) (x5 : Int32) (x6 : Int32) (x7 : Int32) (x8 : Int32) (σ : Mem) (H : Heap) (locs : List Loc) (ls : Array Slot) (hw : Wd TM E σ s H locs) (hl : lv_has ls 10 [(0, .ref (E.2.1 (0))), (4, .int x4), (5, .int x5), (6, .int x6), (7, .int x7), (8, .int x8)]) (h : k77 x4 x5 x6 x7 x8 σ = some (rr, τ)), W p l e { frames := 4, cells := 0, slots := 0, locals := 105 } s m args below meth c H locs 0 0 (MQ below (QI TM E rr τ) args s 0 0 E.2.2.1) (F0 m 77 ls [])) : ∀ (x4 : Int32) (x5 : Int32) (x6 : Int32) (x7 : Int32) (x8 : Int32) (σ : Mem) (H : Heap) (locs : List Loc) (ls : Array Slot) (hw : Wd TM E σ s H locs) (hl : lv_has ls 10 [(0, .ref (E.2.1 (0))), (4, .int x4), (5, .int x5), (6, .int x6), (7, .int x7), (8, .int x8)]) (h : f_X12_ridge_106 k77 x4 x5 x6 x7 x8 σ = some (rr, τ)), W p l e { frames := 4, cells := 0, slots := 0, locals := 105 } s m args below meth c H locs 0 0 (MQ below (QI TM E rr τ) args s 0 0 E.2.2.1) (F0 m 106 ls []) := by
  obtain ⟨hx, hb, hml, hown, hts, hK, hSt, hlk, hr⟩ := id C
  intro x4 x5 x6 x7 x8 σ H locs ls hw hl h
  unfold f_X12_ridge_106 at h
  refine lv_iload hx hb dX12_ridge_106 (lv_at hl 3 rfl) ?_
  exact w_X12_ridge_108 C _ hk77 _ _ _ _ _ _ _ _ _ hw (lv_sub hl [0, 1, 2, 4, 5] rfl) h
set_option maxHeartbeats 4000000 in
set_option maxRecDepth 100000 in
theorem w_X12_ridge_77 {p : Program} {l : Launch} {e : Env} {s : State} {m : MethodId} {args : Array Value} {below : List Frame} {meth : Method} {c : Code} {E : EV} {rr : Int32} {τ : Mem} (C : Cx E p s m args meth c cX12_ridge 10 (some .int) RX12) : ∀ (n : Nat) (x4 : Int32) (x5 : Int32) (x6 : Int32) (x7 : Int32) (x8 : Int32) (σ : Mem) (H : Heap) (locs : List Loc) (ls : Array Slot) (hw : Wd TM E σ s H locs) (hl : lv_has ls 10 [(0, .ref (E.2.1 (0))), (4, .int x4), (5, .int x5), (6, .int x6), (7, .int x7), (8, .int x8)]) (h : fx6 (f_X12_ridge_77) n x4 x5 x6 x7 x8 σ = some (rr, τ)), W p l e { frames := 4, cells := 0, slots := 0, locals := 105 } s m args below meth c H locs 0 0 (MQ below (QI TM E rr τ) args s 0 0 E.2.2.1) (F0 m 77 ls []) := by
  obtain ⟨hx, hb, hml, hown, hts, hK, hSt, hlk, hr⟩ := id C
  intro n
  induction n with
  | zero =>
    intro x4 x5 x6 x7 x8 σ H locs ls hw hl h
    have h : none = some (rr, τ) := h
    cases h
  | succ n hk77 =>
    intro x4 x5 x6 x7 x8 σ H locs ls hw hl h
    replace h : f_X12_ridge_77 (fx6 (f_X12_ridge_77) n) x4 x5 x6 x7 x8 σ = some (rr, τ) := h
    unfold f_X12_ridge_77 at h
    refine lv_iload hx hb dX12_ridge_77 (lv_at hl 5 rfl) ?_
    refine lv_bipush (v := 64) hx hb dX12_ridge_79 (by decide) ?_
    refine lv_icmp_ge (tgt := 142) hx hb dX12_ridge_81 (by decide) (fun c_33 => ?_) (fun c_33 => ?_)
    · replace h := it_at h c_33
      refine lv_iload hx hb dX12_ridge_142 (lv_at hl 2 rfl) ?_
      refine lv_if_ne (tgt := 182) hx hb dX12_ridge_144 (by decide) (fun c_34 => ?_) (fun c_34 => ?_)
      · replace h := ie_at h c_34
        refine lv_iload hx hb dX12_ridge_182 (lv_at hl 3 rfl) ?_
        refine lv_iconst (v := (-1)) hx hb dX12_ridge_184 (by decide) ?_
        refine lv_icmp_ne (tgt := 192) hx hb dX12_ridge_185 (by decide) (fun c_35 => ?_) (fun c_35 => ?_)
        · replace h := ie_at h c_35
          refine lv_aload_n hx hb dX12_ridge_192 rfl (lv_at hl 0 rfl) ?_
          refine lv_iload hx hb dX12_ridge_193 (lv_at hl 1 rfl) ?_
          refine lv_iload hx hb dX12_ridge_195 (lv_at hl 3 rfl) ?_
          obtain ⟨r_36, σ_37, h_38, h⟩ := bd_at h
          refine q_afterI hw (q_runV C hw hl.1 (As := [.int x4, .int x6]) (rest := []) (m_X12_allMeal l E x4 x6 σ r_36 σ_37 h_38) yq_X12_allMeal tM_0 rfl rfl kw_1378 ⟨Nat.le_of_ble_eq_true rfl, Nat.le_of_ble_eq_true rfl⟩ rfl (Nat.le_of_ble_eq_true rfl) ⟨Nat.zero_le _, Nat.zero_le _⟩ dX12_ridge_197) (fun H locs hw => ?_)
          refine lv_iload hx hb dX12_ridge_200 (lv_at hl 4 rfl) ?_
          refine lv_isub hx hb dX12_ridge_202 ?_
          obtain ⟨rfl, rfl⟩ := ret_at h
          exact q_iret C hw dX12_ridge_203
        · replace h := it_at h c_35
          refine lv_iconst (v := 1) hx hb dX12_ridge_188 (by decide) ?_
          refine lv_goto (tgt := 203) hx hb dX12_ridge_189 (by decide) ?_
          obtain ⟨rfl, rfl⟩ := ret_at h
          exact q_iret C hw dX12_ridge_203
      · replace h := it_at h c_34
        refine lv_iload hx hb dX12_ridge_147 (lv_at hl 3 rfl) ?_
        refine lv_iconst (v := (-1)) hx hb dX12_ridge_149 (by decide) ?_
        refine lv_icmp_ne (tgt := 158) hx hb dX12_ridge_150 (by decide) (fun c_39 => ?_) (fun c_39 => ?_)
        · replace h := ie_at h c_39
          refine lv_bipush (v := 100) hx hb dX12_ridge_158 (by decide) ?_
          refine lv_iload hx hb dX12_ridge_160 (lv_at hl 3 rfl) ?_
          refine lv_bipush (v := 16) hx hb dX12_ridge_162 (by decide) ?_
          refine lv_idiv hx hb dX12_ridge_164 (by decide) ?_
          refine lv_imul hx hb dX12_ridge_165 ?_
          refine lv_bipush (v := 10) hx hb dX12_ridge_166 (by decide) ?_
          refine lv_iload hx hb dX12_ridge_168 (lv_at hl 3 rfl) ?_
          refine lv_iconst (v := 4) hx hb dX12_ridge_170 (by decide) ?_
          refine lv_idiv hx hb dX12_ridge_171 (by decide) ?_
          refine lv_iconst (v := 4) hx hb dX12_ridge_172 (by decide) ?_
          refine q_irem hx hb dX12_ridge_173 (by decide) ?_
          refine lv_imul hx hb dX12_ridge_174 ?_
          refine lv_iadd hx hb dX12_ridge_175 ?_
          refine lv_iload hx hb dX12_ridge_176 (lv_at hl 3 rfl) ?_
          refine lv_iconst (v := 4) hx hb dX12_ridge_178 (by decide) ?_
          refine q_irem hx hb dX12_ridge_179 (by decide) ?_
          refine lv_iadd hx hb dX12_ridge_180 ?_
          obtain ⟨rfl, rfl⟩ := ret_at h
          exact q_iret C hw dX12_ridge_181
        · replace h := it_at h c_39
          refine lv_bipush (v := (-5)) hx hb dX12_ridge_153 (by decide) ?_
          refine lv_goto (tgt := 181) hx hb dX12_ridge_155 (by decide) ?_
          obtain ⟨rfl, rfl⟩ := ret_at h
          exact q_iret C hw dX12_ridge_181
    · replace h := ie_at h c_33
      refine lv_iload hx hb dX12_ridge_84 (lv_at hl 3 rfl) ?_
      refine lv_iconst (v := (-1)) hx hb dX12_ridge_86 (by decide) ?_
      refine lv_icmp_ne (tgt := 106) hx hb dX12_ridge_87 (by decide) (fun c_40 => ?_) (fun c_40 => ?_)
      · replace h := ie_at h c_40
        exact w_X12_ridge_106 C _ hk77 _ _ _ _ _ _ _ _ _ hw (lv_sub hl [0, 1, 2, 3, 4, 5] rfl) h
      · replace h := it_at h c_40
        refine lv_aload_n hx hb dX12_ridge_90 rfl (lv_at hl 0 rfl) ?_
        refine lv_iload hx hb dX12_ridge_91 (lv_at hl 1 rfl) ?_
        refine lv_iload hx hb dX12_ridge_93 (lv_at hl 5 rfl) ?_
        obtain ⟨r_41, σ_42, h_43, h⟩ := bd_at h
        refine q_afterI hw (q_runV C hw hl.1 (As := [.int x4, .int x8]) (rest := []) (m_X12_isRest l E x4 x8 σ r_41 σ_42 h_43) yq_X12_isRest tM_0 rfl rfl kw_1394 ⟨Nat.le_of_ble_eq_true rfl, Nat.le_of_ble_eq_true rfl⟩ rfl (Nat.le_of_ble_eq_true rfl) ⟨Nat.zero_le _, Nat.zero_le _⟩ dX12_ridge_95) (fun H locs hw => ?_)
        refine lv_if_eq (tgt := 106) hx hb dX12_ridge_98 (by decide) (fun c_44 => ?_) (fun c_44 => ?_)
        · replace h := it_at h c_44
          exact w_X12_ridge_106 C _ hk77 _ _ _ _ _ _ _ _ _ hw (lv_sub hl [0, 1, 2, 3, 4, 5] rfl) h
        · replace h := ie_at h c_44
          refine lv_iload hx hb dX12_ridge_101 (lv_at hl 5 rfl) ?_
          refine lv_goto (tgt := 108) hx hb dX12_ridge_103 (by decide) ?_
          exact w_X12_ridge_108 C _ hk77 _ _ _ _ _ _ _ _ _ hw (lv_sub hl [0, 1, 2, 4, 5] rfl) h
set_option maxHeartbeats 4000000 in
set_option maxRecDepth 100000 in
theorem m_X12_ridge (l : Launch) (E : EV) (p1 : Int32) (p2 : Int32) (p3 : Int32) (p4 : Int32) (p5 : Int32) (σ : Mem) (rr : Int32) (τ : Mem) (h : f_X12_ridge p1 p2 p3 p4 p5 σ = some (rr, τ)) : MI TM l E yX12_ridge cX12_ridge 10 (some .int) 4 105 [.ref (E.2.1 (0)), .int p1, .int p2, .int p3, .int p4, .int p5] σ rr τ := by
  refine mt_start RX12 (by decide +kernel) rfl (Nat.le_of_ble_eq_true rfl) (fun p e s m args below meth c ls C hw hl => ?_)
  replace hl : lv_has ls 10 [(0, .ref (E.2.1 (0))), (1, .int p1), (2, .int p2), (3, .int p3), (4, .int p4), (5, .int p5)] := hl
  obtain ⟨hx, hb, hml, hown, hts, hK, hSt, hlk, hr⟩ := id C
  unfold f_X12_ridge at h
  refine lv_aload_n hx hb dX12_ridge_0 rfl (lv_at hl 0 rfl) ?_
  refine lv_iload_n hx hb dX12_ridge_1 rfl (lv_at hl 1 rfl) ?_
  obtain ⟨r_1, σ_2, h_3, h⟩ := bd_at h
  refine q_afterI hw (q_runV C hw hl.1 (As := [.int p1]) (rest := []) (m_X12_isMill l E p1 σ r_1 σ_2 h_3) yq_X12_isMill tM_0 rfl rfl kw_1213 ⟨Nat.le_of_ble_eq_true rfl, Nat.le_of_ble_eq_true rfl⟩ rfl (Nat.le_of_ble_eq_true rfl) ⟨Nat.zero_le _, Nat.zero_le _⟩ dX12_ridge_2) (fun H locs hw => ?_)
  refine lv_if_eq (tgt := 42) hx hb dX12_ridge_5 (by decide) (fun c_4 => ?_) (fun c_4 => ?_)
  · replace h := it_at h c_4
    refine lv_iconst (v := (-1)) hx hb dX12_ridge_42 (by decide) ?_
    obtain ⟨rfl, rfl⟩ := ret_at h
    exact q_iret C hw dX12_ridge_43
  · replace h := ie_at h c_4
    refine lv_aload_n hx hb dX12_ridge_8 rfl (lv_at hl 0 rfl) ?_
    refine lv_iload_n hx hb dX12_ridge_9 rfl (lv_at hl 2 rfl) ?_
    obtain ⟨r_5, σ_6, h_7, h⟩ := bd_at h
    refine q_afterI hw (q_runV C hw hl.1 (As := [.int p2]) (rest := []) (m_X12_isMill l E p2 σ_2 r_5 σ_6 h_7) yq_X12_isMill tM_0 rfl rfl kw_1213 ⟨Nat.le_of_ble_eq_true rfl, Nat.le_of_ble_eq_true rfl⟩ rfl (Nat.le_of_ble_eq_true rfl) ⟨Nat.zero_le _, Nat.zero_le _⟩ dX12_ridge_10) (fun H locs hw => ?_)
    refine lv_if_eq (tgt := 42) hx hb dX12_ridge_13 (by decide) (fun c_8 => ?_) (fun c_8 => ?_)
    · replace h := it_at h c_8
      refine lv_iconst (v := (-1)) hx hb dX12_ridge_42 (by decide) ?_
      obtain ⟨rfl, rfl⟩ := ret_at h
      exact q_iret C hw dX12_ridge_43
    · replace h := ie_at h c_8
      refine lv_aload_n hx hb dX12_ridge_16 rfl (lv_at hl 0 rfl) ?_
      refine lv_iload_n hx hb dX12_ridge_17 rfl (lv_at hl 3 rfl) ?_
      obtain ⟨r_9, σ_10, h_11, h⟩ := bd_at h
      refine q_afterI hw (q_runV C hw hl.1 (As := [.int p3]) (rest := []) (m_X12_isMill l E p3 σ_6 r_9 σ_10 h_11) yq_X12_isMill tM_0 rfl rfl kw_1213 ⟨Nat.le_of_ble_eq_true rfl, Nat.le_of_ble_eq_true rfl⟩ rfl (Nat.le_of_ble_eq_true rfl) ⟨Nat.zero_le _, Nat.zero_le _⟩ dX12_ridge_18) (fun H locs hw => ?_)
      refine lv_if_eq (tgt := 42) hx hb dX12_ridge_21 (by decide) (fun c_12 => ?_) (fun c_12 => ?_)
      · replace h := it_at h c_12
        refine lv_iconst (v := (-1)) hx hb dX12_ridge_42 (by decide) ?_
        obtain ⟨rfl, rfl⟩ := ret_at h
        exact q_iret C hw dX12_ridge_43
      · replace h := ie_at h c_12
        refine lv_iload hx hb dX12_ridge_24 (lv_at hl 4 rfl) ?_
        obtain ⟨r_13, σ_14, h_15, h⟩ := bd_at h
        refine q_afterI hw (q_runS C hw hl.1 (As := [.int p4]) (rest := []) (m_X12_isWind l E p4 σ_10 r_13 σ_14 h_15) yq_X12_isWind kw_1217 ⟨Nat.le_of_ble_eq_true rfl, Nat.le_of_ble_eq_true rfl⟩ rfl (Nat.le_of_ble_eq_true rfl) ⟨Nat.zero_le _, Nat.zero_le _⟩ dX12_ridge_26) (fun H locs hw => ?_)
        refine lv_if_eq (tgt := 42) hx hb dX12_ridge_29 (by decide) (fun c_16 => ?_) (fun c_16 => ?_)
        · replace h := it_at h c_16
          refine lv_iconst (v := (-1)) hx hb dX12_ridge_42 (by decide) ?_
          obtain ⟨rfl, rfl⟩ := ret_at h
          exact q_iret C hw dX12_ridge_43
        · replace h := ie_at h c_16
          refine lv_iload hx hb dX12_ridge_32 (lv_at hl 5 rfl) ?_
          refine lv_iconst (v := 0) hx hb dX12_ridge_34 (by decide) ?_
          refine lv_iconst (v := 1) hx hb dX12_ridge_35 (by decide) ?_
          obtain ⟨r_17, σ_18, h_19, h⟩ := bd_at h
          refine q_afterI hw (q_runS C hw hl.1 (As := [.int p5, .int (0 : Int32), .int (1 : Int32)]) (rest := []) (m_X12_in l E p5 (0 : Int32) (1 : Int32) σ_14 r_17 σ_18 h_19) yq_X12_in kw_1142 ⟨Nat.le_of_ble_eq_true rfl, Nat.le_of_ble_eq_true rfl⟩ rfl (Nat.le_of_ble_eq_true rfl) ⟨Nat.zero_le _, Nat.zero_le _⟩ dX12_ridge_36) (fun H locs hw => ?_)
          refine lv_if_ne (tgt := 44) hx hb dX12_ridge_39 (by decide) (fun c_20 => ?_) (fun c_20 => ?_)
          · replace h := ie_at h c_20
            refine lv_aload_n hx hb dX12_ridge_44 rfl (lv_at hl 0 rfl) ?_
            refine lv_iconst (v := 0) hx hb dX12_ridge_45 (by decide) ?_
            refine lv_iload_n hx hb dX12_ridge_46 rfl (lv_at hl 1 rfl) ?_
            obtain ⟨σ_22, h_23, h⟩ := bv_at h
            refine q_afterV hw (q_runV C hw hl.1 (As := [.int (0 : Int32), .int p1]) (rest := []) (m_X12_looksAt l E (0 : Int32) p1 σ_18 σ_22 h_23) yq_X12_looksAt tM_0 rfl rfl kw_1374 ⟨Nat.le_of_ble_eq_true rfl, Nat.le_of_ble_eq_true rfl⟩ rfl (Nat.le_of_ble_eq_true rfl) ⟨Nat.zero_le _, Nat.zero_le _⟩ dX12_ridge_47) (fun H locs hw => ?_)
            refine lv_aload_n hx hb dX12_ridge_50 rfl (lv_at hl 0 rfl) ?_
            refine lv_iconst (v := 1) hx hb dX12_ridge_51 (by decide) ?_
            refine lv_iload_n hx hb dX12_ridge_52 rfl (lv_at hl 2 rfl) ?_
            obtain ⟨σ_25, h_26, h⟩ := bv_at h
            refine q_afterV hw (q_runV C hw hl.1 (As := [.int (1 : Int32), .int p2]) (rest := []) (m_X12_looksAt l E (1 : Int32) p2 σ_22 σ_25 h_26) yq_X12_looksAt tM_0 rfl rfl kw_1374 ⟨Nat.le_of_ble_eq_true rfl, Nat.le_of_ble_eq_true rfl⟩ rfl (Nat.le_of_ble_eq_true rfl) ⟨Nat.zero_le _, Nat.zero_le _⟩ dX12_ridge_53) (fun H locs hw => ?_)
            refine lv_aload_n hx hb dX12_ridge_56 rfl (lv_at hl 0 rfl) ?_
            refine lv_iconst (v := 2) hx hb dX12_ridge_57 (by decide) ?_
            refine lv_iload_n hx hb dX12_ridge_58 rfl (lv_at hl 3 rfl) ?_
            obtain ⟨σ_28, h_29, h⟩ := bv_at h
            refine q_afterV hw (q_runV C hw hl.1 (As := [.int (2 : Int32), .int p3]) (rest := []) (m_X12_looksAt l E (2 : Int32) p3 σ_25 σ_28 h_29) yq_X12_looksAt tM_0 rfl rfl kw_1374 ⟨Nat.le_of_ble_eq_true rfl, Nat.le_of_ble_eq_true rfl⟩ rfl (Nat.le_of_ble_eq_true rfl) ⟨Nat.zero_le _, Nat.zero_le _⟩ dX12_ridge_59) (fun H locs hw => ?_)
            refine lv_iconst (v := (-1)) hx hb dX12_ridge_62 (by decide) ?_
            refine lv_istore (lv' := [(6, .int (-1 : Int32)), (0, .ref (E.2.1 (0))), (1, .int p1), (2, .int p2), (3, .int p3), (4, .int p4), (5, .int p5)]) hx hb dX12_ridge_63 hl (by decide) rfl (fun ls hl => ?_)
            refine lv_aload_n hx hb dX12_ridge_65 rfl (lv_at hl 1 rfl) ?_
            refine lv_iload hx hb dX12_ridge_66 (lv_at hl 5 rfl) ?_
            refine lv_iconst (v := 0) hx hb dX12_ridge_68 (by decide) ?_
            obtain ⟨r_30, σ_31, h_32, h⟩ := bd_at h
            refine q_afterI hw (q_runV C hw hl.1 (As := [.int p4, .int (0 : Int32)]) (rest := []) (m_X12_allMeal l E p4 (0 : Int32) σ_28 r_30 σ_31 h_32) yq_X12_allMeal tM_0 rfl rfl kw_1378 ⟨Nat.le_of_ble_eq_true rfl, Nat.le_of_ble_eq_true rfl⟩ rfl (Nat.le_of_ble_eq_true rfl) ⟨Nat.zero_le _, Nat.zero_le _⟩ dX12_ridge_69) (fun H locs hw => ?_)
            refine lv_istore (lv' := [(7, .int r_30), (6, .int (-1 : Int32)), (0, .ref (E.2.1 (0))), (1, .int p1), (2, .int p2), (3, .int p3), (4, .int p4), (5, .int p5)]) hx hb dX12_ridge_72 hl (by decide) rfl (fun ls hl => ?_)
            refine lv_iconst (v := 0) hx hb dX12_ridge_74 (by decide) ?_
            refine lv_istore (lv' := [(8, .int (0 : Int32)), (7, .int r_30), (6, .int (-1 : Int32)), (0, .ref (E.2.1 (0))), (1, .int p1), (2, .int p2), (3, .int p3), (4, .int p4), (5, .int p5)]) hx hb dX12_ridge_75 hl (by decide) rfl (fun ls hl => ?_)
            exact w_X12_ridge_77 C _ _ _ _ _ _ _ _ _ _ hw (lv_sub hl [3, 7, 8, 2, 1, 0] rfl) h
          · replace h := it_at h c_20
            refine lv_iconst (v := (-1)) hx hb dX12_ridge_42 (by decide) ?_
            obtain ⟨rfl, rfl⟩ := ret_at h
            exact q_iret C hw dX12_ridge_43
def f_X12_row (p1 : Int32) (p2 : Int32) (σ : Mem) : Option (Int32 × Mem) :=
  bd (f_X12_isRule p1 σ) fun r_1 σ_2 =>
  if r_1 = 0 then
    (some ((-1 : Int32), σ_2))
  else
    bd (f_X12_in p2 (0 : Int32) (7 : Int32) σ_2) fun r_5 σ_6 =>
    if r_5 = 0 then
      (some ((-2 : Int32), σ_6))
    else
      gd (ib ((887 : Int32) + p1) 1055) <|
      if (gI σ_6 1 ((887 : Int32) + p1).toNatClampNeg) = (6 : Int32) then
        (gd (ib ((907 : Int32) + p1) 1055) <|
        if (gI σ_6 1 ((907 : Int32) + p1).toNatClampNeg) = (10 : Int32) then
          (some ((-4 : Int32), σ_6))
        else
          gd (ib ((907 : Int32) + p1) 1055) <|
          gd (ib (((917 : Int32) + ((10 : Int32) * p1)) + (gI σ_6 1 ((907 : Int32) + p1).toNatClampNeg)) 1055) <|
          lt (sI σ_6 1 (((917 : Int32) + ((10 : Int32) * p1)) + (gI σ_6 1 ((907 : Int32) + p1).toNatClampNeg)).toNatClampNeg p2) fun σ_14 =>
          gd (ib ((907 : Int32) + p1) 1055) <|
          gd (ib ((907 : Int32) + p1) 1055) <|
          lt (sI σ_14 1 ((907 : Int32) + p1).toNatClampNeg ((gI σ_14 1 ((907 : Int32) + p1).toNatClampNeg) + (1 : Int32))) fun σ_17 =>
          gd (ib ((907 : Int32) + p1) 1055) <|
          some (gI σ_17 1 ((907 : Int32) + p1).toNatClampNeg, σ_17))
      else
        some ((-3 : Int32), σ_6)
set_option maxHeartbeats 4000000 in
set_option maxRecDepth 100000 in
theorem m_X12_row (l : Launch) (E : EV) (p1 : Int32) (p2 : Int32) (σ : Mem) (rr : Int32) (τ : Mem) (h : f_X12_row p1 p2 σ = some (rr, τ)) : MI TM l E yX12_row cX12_row 3 (some .int) 2 43 [.ref (E.2.1 (0)), .int p1, .int p2] σ rr τ := by
  refine mt_start RX12 (by decide +kernel) rfl (Nat.le_of_ble_eq_true rfl) (fun p e s m args below meth c ls C hw hl => ?_)
  replace hl : lv_has ls 3 [(0, .ref (E.2.1 (0))), (1, .int p1), (2, .int p2)] := hl
  obtain ⟨hx, hb, hml, hown, hts, hK, hSt, hlk, hr⟩ := id C
  unfold f_X12_row at h
  refine lv_aload_n hx hb dX12_row_0 rfl (lv_at hl 0 rfl) ?_
  refine lv_iload_n hx hb dX12_row_1 rfl (lv_at hl 1 rfl) ?_
  obtain ⟨r_1, σ_2, h_3, h⟩ := bd_at h
  refine q_afterI hw (q_runV C hw hl.1 (As := [.int p1]) (rest := []) (m_X12_isRule l E p1 σ r_1 σ_2 h_3) yq_X12_isRule tM_0 rfl rfl kw_1267 ⟨Nat.le_of_ble_eq_true rfl, Nat.le_of_ble_eq_true rfl⟩ rfl (Nat.le_of_ble_eq_true rfl) ⟨Nat.zero_le _, Nat.zero_le _⟩ dX12_row_2) (fun H locs hw => ?_)
  refine lv_if_ne (tgt := 10) hx hb dX12_row_5 (by decide) (fun c_4 => ?_) (fun c_4 => ?_)
  · replace h := ie_at h c_4
    refine lv_iload_n hx hb dX12_row_10 rfl (lv_at hl 2 rfl) ?_
    refine lv_iconst (v := 0) hx hb dX12_row_11 (by decide) ?_
    refine lv_bipush (v := 7) hx hb dX12_row_12 (by decide) ?_
    obtain ⟨r_5, σ_6, h_7, h⟩ := bd_at h
    refine q_afterI hw (q_runS C hw hl.1 (As := [.int p2, .int (0 : Int32), .int (7 : Int32)]) (rest := []) (m_X12_in l E p2 (0 : Int32) (7 : Int32) σ_2 r_5 σ_6 h_7) yq_X12_in kw_1142 ⟨Nat.le_of_ble_eq_true rfl, Nat.le_of_ble_eq_true rfl⟩ rfl (Nat.le_of_ble_eq_true rfl) ⟨Nat.zero_le _, Nat.zero_le _⟩ dX12_row_14) (fun H locs hw => ?_)
    refine lv_if_ne (tgt := 23) hx hb dX12_row_17 (by decide) (fun c_8 => ?_) (fun c_8 => ?_)
    · replace h := ie_at h c_8
      refine lv_aload_n hx hb dX12_row_23 rfl (lv_at hl 0 rfl) ?_
      refine gf_12_1 C hw tM_0 kw_1019 dX12_row_24 ?_
      refine lv_sipush (v := 887) hx hb dX12_row_27 (by decide) ?_
      refine lv_iload_n hx hb dX12_row_30 rfl (lv_at hl 1 rfl) ?_
      refine lv_iadd hx hb dX12_row_31 ?_
      obtain ⟨g_9, h⟩ := gd_at h
      refine q_iald C hw tM_1 g_9 dX12_row_32 ?_
      refine lv_bipush (v := 6) hx hb dX12_row_33 (by decide) ?_
      refine lv_icmp_eq (tgt := 41) hx hb dX12_row_35 (by decide) (fun c_10 => ?_) (fun c_10 => ?_)
      · replace h := it_at h c_10
        refine lv_aload_n hx hb dX12_row_41 rfl (lv_at hl 0 rfl) ?_
        refine gf_12_1 C hw tM_0 kw_1019 dX12_row_42 ?_
        refine lv_sipush (v := 907) hx hb dX12_row_45 (by decide) ?_
        refine lv_iload_n hx hb dX12_row_48 rfl (lv_at hl 1 rfl) ?_
        refine lv_iadd hx hb dX12_row_49 ?_
        obtain ⟨g_11, h⟩ := gd_at h
        refine q_iald C hw tM_1 g_11 dX12_row_50 ?_
        refine lv_bipush (v := 10) hx hb dX12_row_51 (by decide) ?_
        refine lv_icmp_ne (tgt := 59) hx hb dX12_row_53 (by decide) (fun c_12 => ?_) (fun c_12 => ?_)
        · replace h := ie_at h c_12
          refine lv_aload_n hx hb dX12_row_59 rfl (lv_at hl 0 rfl) ?_
          refine gf_12_1 C hw tM_0 kw_1019 dX12_row_60 ?_
          refine lv_sipush (v := 917) hx hb dX12_row_63 (by decide) ?_
          refine lv_bipush (v := 10) hx hb dX12_row_66 (by decide) ?_
          refine lv_iload_n hx hb dX12_row_68 rfl (lv_at hl 1 rfl) ?_
          refine lv_imul hx hb dX12_row_69 ?_
          refine lv_iadd hx hb dX12_row_70 ?_
          refine lv_aload_n hx hb dX12_row_71 rfl (lv_at hl 0 rfl) ?_
          refine gf_12_1 C hw tM_0 kw_1019 dX12_row_72 ?_
          refine lv_sipush (v := 907) hx hb dX12_row_75 (by decide) ?_
          refine lv_iload_n hx hb dX12_row_78 rfl (lv_at hl 1 rfl) ?_
          refine lv_iadd hx hb dX12_row_79 ?_
          obtain ⟨g_13, h⟩ := gd_at h
          refine q_iald C hw tM_1 g_13 dX12_row_80 ?_
          refine lv_iadd hx hb dX12_row_81 ?_
          refine lv_iload_n hx hb dX12_row_82 rfl (lv_at hl 2 rfl) ?_
          obtain ⟨g_15, h⟩ := gd_at h
          obtain ⟨σ_14, eσ_14, h⟩ := lt_at h
          refine q_iast C hw tM_1 g_15 eσ_14 dX12_row_83 (fun H locs hw => ?_)
          refine lv_aload_n hx hb dX12_row_84 rfl (lv_at hl 0 rfl) ?_
          refine gf_12_1 C hw tM_0 kw_1019 dX12_row_85 ?_
          refine lv_sipush (v := 907) hx hb dX12_row_88 (by decide) ?_
          refine lv_iload_n hx hb dX12_row_91 rfl (lv_at hl 1 rfl) ?_
          refine lv_iadd hx hb dX12_row_92 ?_
          refine lv_dup2_11 hx hb dX12_row_93 rfl rfl ?_
          obtain ⟨g_16, h⟩ := gd_at h
          refine q_iald C hw tM_1 g_16 dX12_row_94 ?_
          refine lv_iconst (v := 1) hx hb dX12_row_95 (by decide) ?_
          refine lv_iadd hx hb dX12_row_96 ?_
          obtain ⟨g_18, h⟩ := gd_at h
          obtain ⟨σ_17, eσ_17, h⟩ := lt_at h
          refine q_iast C hw tM_1 g_18 eσ_17 dX12_row_97 (fun H locs hw => ?_)
          refine lv_aload_n hx hb dX12_row_98 rfl (lv_at hl 0 rfl) ?_
          refine gf_12_1 C hw tM_0 kw_1019 dX12_row_99 ?_
          refine lv_sipush (v := 907) hx hb dX12_row_102 (by decide) ?_
          refine lv_iload_n hx hb dX12_row_105 rfl (lv_at hl 1 rfl) ?_
          refine lv_iadd hx hb dX12_row_106 ?_
          obtain ⟨g_19, h⟩ := gd_at h
          refine q_iald C hw tM_1 g_19 dX12_row_107 ?_
          obtain ⟨rfl, rfl⟩ := ret_at h
          exact q_iret C hw dX12_row_108
        · replace h := it_at h c_12
          refine lv_bipush (v := (-4)) hx hb dX12_row_56 (by decide) ?_
          obtain ⟨rfl, rfl⟩ := ret_at h
          exact q_iret C hw dX12_row_58
      · replace h := ie_at h c_10
        refine lv_bipush (v := (-3)) hx hb dX12_row_38 (by decide) ?_
        obtain ⟨rfl, rfl⟩ := ret_at h
        exact q_iret C hw dX12_row_40
    · replace h := it_at h c_8
      refine lv_bipush (v := (-2)) hx hb dX12_row_20 (by decide) ?_
      obtain ⟨rfl, rfl⟩ := ret_at h
      exact q_iret C hw dX12_row_22
  · replace h := it_at h c_4
    refine lv_iconst (v := (-1)) hx hb dX12_row_8 (by decide) ?_
    obtain ⟨rfl, rfl⟩ := ret_at h
    exact q_iret C hw dX12_row_9
def f_X12_rule (p1 : Int32) (p2 : Int32) (σ : Mem) : Option (Int32 × Mem) :=
  bd (f_X12_in p1 (0 : Int32) (6 : Int32) σ) fun r_1 σ_2 =>
  if r_1 = 0 then
    (some ((-1 : Int32), σ_2))
  else
    bd (f_X12_in p2 (0 : Int32) (7 : Int32) σ_2) fun r_5 σ_6 =>
    if r_5 = 0 then
      (some ((-2 : Int32), σ_6))
    else
      if (gI σ_6 1 1) = (10 : Int32) then
        (some ((-4 : Int32), σ_6))
      else
        lt (gI σ_6 1 1) fun x3_10 =>
        gd (ib ((887 : Int32) + x3_10) 1055) <|
        lt (sI σ_6 1 ((887 : Int32) + x3_10).toNatClampNeg p1) fun σ_11 =>
        gd (ib ((897 : Int32) + x3_10) 1055) <|
        lt (sI σ_11 1 ((897 : Int32) + x3_10).toNatClampNeg p2) fun σ_13 =>
        gd (ib ((907 : Int32) + x3_10) 1055) <|
        lt (sI σ_13 1 ((907 : Int32) + x3_10).toNatClampNeg (0 : Int32)) fun σ_15 =>
        lt (sI σ_15 1 1 ((gI σ_15 1 1) + (1 : Int32))) fun σ_17 =>
        some (x3_10, σ_17)
set_option maxHeartbeats 4000000 in
set_option maxRecDepth 100000 in
theorem m_X12_rule (l : Launch) (E : EV) (p1 : Int32) (p2 : Int32) (σ : Mem) (rr : Int32) (τ : Mem) (h : f_X12_rule p1 p2 σ = some (rr, τ)) : MI TM l E yX12_rule cX12_rule 4 (some .int) 1 22 [.ref (E.2.1 (0)), .int p1, .int p2] σ rr τ := by
  refine mt_start RX12 (by decide +kernel) rfl (Nat.le_of_ble_eq_true rfl) (fun p e s m args below meth c ls C hw hl => ?_)
  replace hl : lv_has ls 4 [(0, .ref (E.2.1 (0))), (1, .int p1), (2, .int p2)] := hl
  obtain ⟨hx, hb, hml, hown, hts, hK, hSt, hlk, hr⟩ := id C
  unfold f_X12_rule at h
  refine lv_iload_n hx hb dX12_rule_0 rfl (lv_at hl 1 rfl) ?_
  refine lv_iconst (v := 0) hx hb dX12_rule_1 (by decide) ?_
  refine lv_bipush (v := 6) hx hb dX12_rule_2 (by decide) ?_
  obtain ⟨r_1, σ_2, h_3, h⟩ := bd_at h
  refine q_afterI hw (q_runS C hw hl.1 (As := [.int p1, .int (0 : Int32), .int (6 : Int32)]) (rest := []) (m_X12_in l E p1 (0 : Int32) (6 : Int32) σ r_1 σ_2 h_3) yq_X12_in kw_1142 ⟨Nat.le_of_ble_eq_true rfl, Nat.le_of_ble_eq_true rfl⟩ rfl (Nat.le_of_ble_eq_true rfl) ⟨Nat.zero_le _, Nat.zero_le _⟩ dX12_rule_4) (fun H locs hw => ?_)
  refine lv_if_ne (tgt := 12) hx hb dX12_rule_7 (by decide) (fun c_4 => ?_) (fun c_4 => ?_)
  · replace h := ie_at h c_4
    refine lv_iload_n hx hb dX12_rule_12 rfl (lv_at hl 2 rfl) ?_
    refine lv_iconst (v := 0) hx hb dX12_rule_13 (by decide) ?_
    refine lv_bipush (v := 7) hx hb dX12_rule_14 (by decide) ?_
    obtain ⟨r_5, σ_6, h_7, h⟩ := bd_at h
    refine q_afterI hw (q_runS C hw hl.1 (As := [.int p2, .int (0 : Int32), .int (7 : Int32)]) (rest := []) (m_X12_in l E p2 (0 : Int32) (7 : Int32) σ_2 r_5 σ_6 h_7) yq_X12_in kw_1142 ⟨Nat.le_of_ble_eq_true rfl, Nat.le_of_ble_eq_true rfl⟩ rfl (Nat.le_of_ble_eq_true rfl) ⟨Nat.zero_le _, Nat.zero_le _⟩ dX12_rule_16) (fun H locs hw => ?_)
    refine lv_if_ne (tgt := 25) hx hb dX12_rule_19 (by decide) (fun c_8 => ?_) (fun c_8 => ?_)
    · replace h := ie_at h c_8
      refine lv_aload_n hx hb dX12_rule_25 rfl (lv_at hl 0 rfl) ?_
      refine gf_12_1 C hw tM_0 kw_1019 dX12_rule_26 ?_
      refine lv_iconst (v := 1) hx hb dX12_rule_29 (by decide) ?_
      refine q_ialdk C hw tM_1 (k := 1) (by rfl) (by decide) (by decide) dX12_rule_30 ?_
      refine lv_bipush (v := 10) hx hb dX12_rule_31 (by decide) ?_
      refine lv_icmp_ne (tgt := 39) hx hb dX12_rule_33 (by decide) (fun c_9 => ?_) (fun c_9 => ?_)
      · replace h := ie_at h c_9
        refine lv_aload_n hx hb dX12_rule_39 rfl (lv_at hl 0 rfl) ?_
        refine gf_12_1 C hw tM_0 kw_1019 dX12_rule_40 ?_
        refine lv_iconst (v := 1) hx hb dX12_rule_43 (by decide) ?_
        refine q_ialdk C hw tM_1 (k := 1) (by rfl) (by decide) (by decide) dX12_rule_44 ?_
        obtain ⟨x3_10, ex3_10, h⟩ := lt_at h
        refine q_top ex3_10 ?_
        refine lv_istore_n (lv' := [(3, .int x3_10), (0, .ref (E.2.1 (0))), (1, .int p1), (2, .int p2)]) hx hb dX12_rule_45 rfl hl (by decide) rfl (fun ls hl => ?_)
        refine lv_aload_n hx hb dX12_rule_46 rfl (lv_at hl 1 rfl) ?_
        refine gf_12_1 C hw tM_0 kw_1019 dX12_rule_47 ?_
        refine lv_sipush (v := 887) hx hb dX12_rule_50 (by decide) ?_
        refine lv_iload_n hx hb dX12_rule_53 rfl (lv_at hl 0 rfl) ?_
        refine lv_iadd hx hb dX12_rule_54 ?_
        refine lv_iload_n hx hb dX12_rule_55 rfl (lv_at hl 2 rfl) ?_
        obtain ⟨g_12, h⟩ := gd_at h
        obtain ⟨σ_11, eσ_11, h⟩ := lt_at h
        refine q_iast C hw tM_1 g_12 eσ_11 dX12_rule_56 (fun H locs hw => ?_)
        refine lv_aload_n hx hb dX12_rule_57 rfl (lv_at hl 1 rfl) ?_
        refine gf_12_1 C hw tM_0 kw_1019 dX12_rule_58 ?_
        refine lv_sipush (v := 897) hx hb dX12_rule_61 (by decide) ?_
        refine lv_iload_n hx hb dX12_rule_64 rfl (lv_at hl 0 rfl) ?_
        refine lv_iadd hx hb dX12_rule_65 ?_
        refine lv_iload_n hx hb dX12_rule_66 rfl (lv_at hl 3 rfl) ?_
        obtain ⟨g_14, h⟩ := gd_at h
        obtain ⟨σ_13, eσ_13, h⟩ := lt_at h
        refine q_iast C hw tM_1 g_14 eσ_13 dX12_rule_67 (fun H locs hw => ?_)
        refine lv_aload_n hx hb dX12_rule_68 rfl (lv_at hl 1 rfl) ?_
        refine gf_12_1 C hw tM_0 kw_1019 dX12_rule_69 ?_
        refine lv_sipush (v := 907) hx hb dX12_rule_72 (by decide) ?_
        refine lv_iload_n hx hb dX12_rule_75 rfl (lv_at hl 0 rfl) ?_
        refine lv_iadd hx hb dX12_rule_76 ?_
        refine lv_iconst (v := 0) hx hb dX12_rule_77 (by decide) ?_
        obtain ⟨g_16, h⟩ := gd_at h
        obtain ⟨σ_15, eσ_15, h⟩ := lt_at h
        refine q_iast C hw tM_1 g_16 eσ_15 dX12_rule_78 (fun H locs hw => ?_)
        refine lv_aload_n hx hb dX12_rule_79 rfl (lv_at hl 1 rfl) ?_
        refine gf_12_1 C hw tM_0 kw_1019 dX12_rule_80 ?_
        refine lv_iconst (v := 1) hx hb dX12_rule_83 (by decide) ?_
        refine lv_dup2_11 hx hb dX12_rule_84 rfl rfl ?_
        refine q_ialdk C hw tM_1 (k := 1) (by rfl) (by decide) (by decide) dX12_rule_85 ?_
        refine lv_iconst (v := 1) hx hb dX12_rule_86 (by decide) ?_
        refine lv_iadd hx hb dX12_rule_87 ?_
        obtain ⟨σ_17, eσ_17, h⟩ := lt_at h
        refine q_iastk C hw tM_1 (k := 1) (by rfl) (by decide) (by decide) eσ_17 dX12_rule_88 (fun H locs hw => ?_)
        refine lv_iload_n hx hb dX12_rule_89 rfl (lv_at hl 0 rfl) ?_
        obtain ⟨rfl, rfl⟩ := ret_at h
        exact q_iret C hw dX12_rule_90
      · replace h := it_at h c_9
        refine lv_bipush (v := (-4)) hx hb dX12_rule_36 (by decide) ?_
        obtain ⟨rfl, rfl⟩ := ret_at h
        exact q_iret C hw dX12_rule_38
    · replace h := it_at h c_8
      refine lv_bipush (v := (-2)) hx hb dX12_rule_22 (by decide) ?_
      obtain ⟨rfl, rfl⟩ := ret_at h
      exact q_iret C hw dX12_rule_24
  · replace h := it_at h c_4
    refine lv_iconst (v := (-1)) hx hb dX12_rule_10 (by decide) ?_
    obtain ⟨rfl, rfl⟩ := ret_at h
    exact q_iret C hw dX12_rule_11
def f_X12_take_114 (k6 : Int32 → Int32 → Int32 → Mem → Option (Int32 × Mem)) (x1 : Int32) (x3 : Int32) (s0 : Int32) (σ : Mem) : Option (Int32 × Mem) :=
  lt (x3 + (1 : Int32)) fun x3_14 =>
  k6 x1 s0 x3_14 σ
def f_X12_take_102 (k6 : Int32 → Int32 → Int32 → Mem → Option (Int32 × Mem)) (x2 : Int32) (x3 : Int32) (x4 : Int32) (x5 : Int32) (s0 : Int32) (σ : Mem) : Option (Int32 × Mem) :=
  if x5 = 0 then
    (f_X12_take_114 k6 s0 x3 x2 σ)
  else
    f_X12_take_114 k6 s0 x3 x4 σ
def f_X12_take_90 (k6 : Int32 → Int32 → Int32 → Mem → Option (Int32 × Mem)) (x1 : Int32) (x2 : Int32) (x3 : Int32) (x4 : Int32) (s0 : Int32) (σ : Mem) : Option (Int32 × Mem) :=
  if s0 = 0 then
    (f_X12_take_102 k6 x2 x3 x4 s0 x1 σ)
  else
    f_X12_take_102 k6 x2 x3 x4 s0 x3 σ
def f_X12_take_89 (k6 : Int32 → Int32 → Int32 → Mem → Option (Int32 × Mem)) (x1 : Int32) (x2 : Int32) (x3 : Int32) (x4 : Int32) (σ : Mem) : Option (Int32 × Mem) :=
  f_X12_take_90 k6 x1 x2 x3 x4 (0 : Int32) σ
def f_X12_take_62 (k6 : Int32 → Int32 → Int32 → Mem → Option (Int32 × Mem)) (k24 : Int32 → Int32 → Int32 → Int32 → Int32 → Mem → Option (Int32 × Mem)) (x1 : Int32) (x2 : Int32) (x3 : Int32) (x5 : Int32) (s0 : Int32) (s1 : Int32) (σ : Mem) : Option (Int32 × Mem) :=
  lt (s0 + s1) fun x4_11 =>
  lt (x5 + (1 : Int32)) fun x5_12 =>
  k24 x1 x2 x3 x4_11 x5_12 σ
def f_X12_take_24 (k6 : Int32 → Int32 → Int32 → Mem → Option (Int32 × Mem)) (k24 : Int32 → Int32 → Int32 → Int32 → Int32 → Mem → Option (Int32 × Mem)) (x1 : Int32) (x2 : Int32) (x3 : Int32) (x4 : Int32) (x5 : Int32) (σ : Mem) : Option (Int32 × Mem) :=
  if (gI σ 1 3) ≤ x5 then
    (if x4 ≤ x2 then
      (f_X12_take_89 k6 x1 x2 x3 x4 σ)
    else
      bd (f_X12_lates x3 σ) fun r_4 σ_5 =>
      if r_4 = 0 then
        (f_X12_take_90 k6 x1 x2 x3 x4 (1 : Int32) σ_5)
      else
        f_X12_take_89 k6 x1 x2 x3 x4 σ_5)
  else
    if ((x3 >>> (x5 &&& 31)) &&& (1 : Int32)) = (1 : Int32) then
      (gd (ib ((1049 : Int32) + x5) 1055) <|
      f_X12_take_62 k6 k24 x1 x2 x3 x5 x4 (gI σ 1 ((1049 : Int32) + x5).toNatClampNeg) σ)
    else
      f_X12_take_62 k6 k24 x1 x2 x3 x5 x4 (0 : Int32) σ
def f_X12_take_6 (k6 : Int32 → Int32 → Int32 → Mem → Option (Int32 × Mem)) (x1 : Int32) (x2 : Int32) (x3 : Int32) (σ : Mem) : Option (Int32 × Mem) :=
  if ((1 : Int32) <<< ((gI σ 1 3) &&& 31)) ≤ x3 then
    (some (x1, σ))
  else
    fx6 (f_X12_take_24 k6) FU x1 x2 x3 (0 : Int32) (0 : Int32) σ
def f_X12_take (σ : Mem) : Option (Int32 × Mem) :=
  fx4 (f_X12_take_6) FU (0 : Int32) (0 : Int32) (1 : Int32) σ
set_option maxHeartbeats 4000000 in
set_option maxRecDepth 100000 in
theorem w_X12_take_114 {p : Program} {l : Launch} {e : Env} {s : State} {m : MethodId} {args : Array Value} {below : List Frame} {meth : Method} {c : Code} {E : EV} {rr : Int32} {τ : Mem} (C : Cx E p s m args meth c cX12_take 6 (some .int) RX12) (k6 : Int32 → Int32 → Int32 → Mem → Option (Int32 × Mem)) (hk6 : ∀ (x1 : Int32) (x2 : Int32) (x3 : Int32) (σ : Mem) (H : Heap) (locs : List Loc) (ls : Array Slot) (hw : Wd TM E σ s H locs) (hl : lv_has ls 6 [(0, .ref (E.2.1 (0))), (1, .int x1), (2, .int x2), (3, .int x3)]) (h : k6 x1 x2 x3 σ = some (rr, τ)), W p l e { frames := 2, cells := 0, slots := 0, locals := 48 } s m args below meth c H locs 0 0 (MQ below (QI TM E rr τ) args s 0 0 E.2.2.1) (F0 m 6 ls [])) : ∀ (x1 : Int32) (x3 : Int32) (s0 : Int32) (σ : Mem) (H : Heap) (locs : List Loc) (ls : Array Slot) (hw : Wd TM E σ s H locs) (hl : lv_has ls 6 [(0, .ref (E.2.1 (0))), (1, .int x1), (3, .int x3)]) (h : f_X12_take_114 k6 x1 x3 s0 σ = some (rr, τ)), W p l e { frames := 2, cells := 0, slots := 0, locals := 48 } s m args below meth c H locs 0 0 (MQ below (QI TM E rr τ) args s 0 0 E.2.2.1) (F0 m 114 ls [.int s0]) := by
  obtain ⟨hx, hb, hml, hown, hts, hK, hSt, hlk, hr⟩ := id C
  intro x1 x3 s0 σ H locs ls hw hl h
  unfold f_X12_take_114 at h
  refine lv_istore_n (lv' := [(2, .int s0), (0, .ref (E.2.1 (0))), (1, .int x1), (3, .int x3)]) hx hb dX12_take_114 rfl hl (by decide) rfl (fun ls hl => ?_)
  obtain ⟨x3_14, ex3_14, h⟩ := lt_at h
  refine lv_iinc (v := x3_14) (lv' := [(3, .int x3_14), (2, .int s0), (0, .ref (E.2.1 (0))), (1, .int x1)]) hx hb dX12_take_115 hl (k := 3) rfl (by rw [ex3_14]; rfl) (by decide) rfl (fun ls hl => ?_)
  refine lv_goto (tgt := 6) hx hb dX12_take_118 (by decide) ?_
  exact hk6 _ _ _ _ _ _ _ hw (lv_sub hl [2, 3, 1, 0] rfl) h
set_option maxHeartbeats 4000000 in
set_option maxRecDepth 100000 in
theorem w_X12_take_102 {p : Program} {l : Launch} {e : Env} {s : State} {m : MethodId} {args : Array Value} {below : List Frame} {meth : Method} {c : Code} {E : EV} {rr : Int32} {τ : Mem} (C : Cx E p s m args meth c cX12_take 6 (some .int) RX12) (k6 : Int32 → Int32 → Int32 → Mem → Option (Int32 × Mem)) (hk6 : ∀ (x1 : Int32) (x2 : Int32) (x3 : Int32) (σ : Mem) (H : Heap) (locs : List Loc) (ls : Array Slot) (hw : Wd TM E σ s H locs) (hl : lv_has ls 6 [(0, .ref (E.2.1 (0))), (1, .int x1), (2, .int x2), (3, .int x3)]) (h : k6 x1 x2 x3 σ = some (rr, τ)), W p l e { frames := 2, cells := 0, slots := 0, locals := 48 } s m args below meth c H locs 0 0 (MQ below (QI TM E rr τ) args s 0 0 E.2.2.1) (F0 m 6 ls [])) : ∀ (x2 : Int32) (x3 : Int32) (x4 : Int32) (x5 : Int32) (s0 : Int32) (σ : Mem) (H : Heap) (locs : List Loc) (ls : Array Slot) (hw : Wd TM E σ s H locs) (hl : lv_has ls 6 [(0, .ref (E.2.1 (0))), (2, .int x2), (3, .int x3), (4, .int x4), (5, .int x5)]) (h : f_X12_take_102 k6 x2 x3 x4 x5 s0 σ = some (rr, τ)), W p l e { frames := 2, cells := 0, slots := 0, locals := 48 } s m args below meth c H locs 0 0 (MQ below (QI TM E rr τ) args s 0 0 E.2.2.1) (F0 m 102 ls [.int s0]) := by
  obtain ⟨hx, hb, hml, hown, hts, hK, hSt, hlk, hr⟩ := id C
  intro x2 x3 x4 x5 s0 σ H locs ls hw hl h
  unfold f_X12_take_102 at h
  refine lv_istore_n (lv' := [(1, .int s0), (0, .ref (E.2.1 (0))), (2, .int x2), (3, .int x3), (4, .int x4), (5, .int x5)]) hx hb dX12_take_102 rfl hl (by decide) rfl (fun ls hl => ?_)
  refine lv_iload hx hb dX12_take_103 (lv_at hl 5 rfl) ?_
  refine lv_if_eq (tgt := 113) hx hb dX12_take_105 (by decide) (fun c_13 => ?_) (fun c_13 => ?_)
  · replace h := it_at h c_13
    refine lv_iload_n hx hb dX12_take_113 rfl (lv_at hl 2 rfl) ?_
    exact w_X12_take_114 C _ hk6 _ _ _ _ _ _ _ hw (lv_sub hl [1, 0, 3] rfl) h
  · replace h := ie_at h c_13
    refine lv_iload hx hb dX12_take_108 (lv_at hl 4 rfl) ?_
    refine lv_goto (tgt := 114) hx hb dX12_take_110 (by decide) ?_
    exact w_X12_take_114 C _ hk6 _ _ _ _ _ _ _ hw (lv_sub hl [1, 0, 3] rfl) h
set_option maxHeartbeats 4000000 in
set_option maxRecDepth 100000 in
theorem w_X12_take_90 {p : Program} {l : Launch} {e : Env} {s : State} {m : MethodId} {args : Array Value} {below : List Frame} {meth : Method} {c : Code} {E : EV} {rr : Int32} {τ : Mem} (C : Cx E p s m args meth c cX12_take 6 (some .int) RX12) (k6 : Int32 → Int32 → Int32 → Mem → Option (Int32 × Mem)) (hk6 : ∀ (x1 : Int32) (x2 : Int32) (x3 : Int32) (σ : Mem) (H : Heap) (locs : List Loc) (ls : Array Slot) (hw : Wd TM E σ s H locs) (hl : lv_has ls 6 [(0, .ref (E.2.1 (0))), (1, .int x1), (2, .int x2), (3, .int x3)]) (h : k6 x1 x2 x3 σ = some (rr, τ)), W p l e { frames := 2, cells := 0, slots := 0, locals := 48 } s m args below meth c H locs 0 0 (MQ below (QI TM E rr τ) args s 0 0 E.2.2.1) (F0 m 6 ls [])) : ∀ (x1 : Int32) (x2 : Int32) (x3 : Int32) (x4 : Int32) (s0 : Int32) (σ : Mem) (H : Heap) (locs : List Loc) (ls : Array Slot) (hw : Wd TM E σ s H locs) (hl : lv_has ls 6 [(0, .ref (E.2.1 (0))), (1, .int x1), (2, .int x2), (3, .int x3), (4, .int x4)]) (h : f_X12_take_90 k6 x1 x2 x3 x4 s0 σ = some (rr, τ)), W p l e { frames := 2, cells := 0, slots := 0, locals := 48 } s m args below meth c H locs 0 0 (MQ below (QI TM E rr τ) args s 0 0 E.2.2.1) (F0 m 90 ls [.int s0]) := by
  obtain ⟨hx, hb, hml, hown, hts, hK, hSt, hlk, hr⟩ := id C
  intro x1 x2 x3 x4 s0 σ H locs ls hw hl h
  unfold f_X12_take_90 at h
  refine lv_istore (lv' := [(5, .int s0), (0, .ref (E.2.1 (0))), (1, .int x1), (2, .int x2), (3, .int x3), (4, .int x4)]) hx hb dX12_take_90 hl (by decide) rfl (fun ls hl => ?_)
  refine lv_iload hx hb dX12_take_92 (lv_at hl 0 rfl) ?_
  refine lv_if_eq (tgt := 101) hx hb dX12_take_94 (by decide) (fun c_10 => ?_) (fun c_10 => ?_)
  · replace h := it_at h c_10
    refine lv_iload_n hx hb dX12_take_101 rfl (lv_at hl 2 rfl) ?_
    exact w_X12_take_102 C _ hk6 _ _ _ _ _ _ _ _ _ hw (lv_sub hl [1, 3, 4, 5, 0] rfl) h
  · replace h := ie_at h c_10
    refine lv_iload_n hx hb dX12_take_97 rfl (lv_at hl 4 rfl) ?_
    refine lv_goto (tgt := 102) hx hb dX12_take_98 (by decide) ?_
    exact w_X12_take_102 C _ hk6 _ _ _ _ _ _ _ _ _ hw (lv_sub hl [1, 3, 4, 5, 0] rfl) h
set_option maxHeartbeats 4000000 in
set_option maxRecDepth 100000 in
theorem w_X12_take_89 {p : Program} {l : Launch} {e : Env} {s : State} {m : MethodId} {args : Array Value} {below : List Frame} {meth : Method} {c : Code} {E : EV} {rr : Int32} {τ : Mem} (C : Cx E p s m args meth c cX12_take 6 (some .int) RX12) (k6 : Int32 → Int32 → Int32 → Mem → Option (Int32 × Mem)) (hk6 : ∀ (x1 : Int32) (x2 : Int32) (x3 : Int32) (σ : Mem) (H : Heap) (locs : List Loc) (ls : Array Slot) (hw : Wd TM E σ s H locs) (hl : lv_has ls 6 [(0, .ref (E.2.1 (0))), (1, .int x1), (2, .int x2), (3, .int x3)]) (h : k6 x1 x2 x3 σ = some (rr, τ)), W p l e { frames := 2, cells := 0, slots := 0, locals := 48 } s m args below meth c H locs 0 0 (MQ below (QI TM E rr τ) args s 0 0 E.2.2.1) (F0 m 6 ls [])) : ∀ (x1 : Int32) (x2 : Int32) (x3 : Int32) (x4 : Int32) (σ : Mem) (H : Heap) (locs : List Loc) (ls : Array Slot) (hw : Wd TM E σ s H locs) (hl : lv_has ls 6 [(0, .ref (E.2.1 (0))), (1, .int x1), (2, .int x2), (3, .int x3), (4, .int x4)]) (h : f_X12_take_89 k6 x1 x2 x3 x4 σ = some (rr, τ)), W p l e { frames := 2, cells := 0, slots := 0, locals := 48 } s m args below meth c H locs 0 0 (MQ below (QI TM E rr τ) args s 0 0 E.2.2.1) (F0 m 89 ls []) := by
  obtain ⟨hx, hb, hml, hown, hts, hK, hSt, hlk, hr⟩ := id C
  intro x1 x2 x3 x4 σ H locs ls hw hl h
  unfold f_X12_take_89 at h
  refine lv_iconst (v := 0) hx hb dX12_take_89 (by decide) ?_
  exact w_X12_take_90 C _ hk6 _ _ _ _ _ _ _ _ _ hw (lv_sub hl [0, 1, 2, 3, 4] rfl) h
set_option maxHeartbeats 4000000 in
set_option maxRecDepth 100000 in
theorem w_X12_take_62 {p : Program} {l : Launch} {e : Env} {s : State} {m : MethodId} {args : Array Value} {below : List Frame} {meth : Method} {c : Code} {E : EV} {rr : Int32} {τ : Mem} (C : Cx E p s m args meth c cX12_take 6 (some .int) RX12) (k6 : Int32 → Int32 → Int32 → Mem → Option (Int32 × Mem)) (hk6 : ∀ (x1 : Int32) (x2 : Int32) (x3 : Int32) (σ : Mem) (H : Heap) (locs : List Loc) (ls : Array Slot) (hw : Wd TM E σ s H locs) (hl : lv_has ls 6 [(0, .ref (E.2.1 (0))), (1, .int x1), (2, .int x2), (3, .int x3)]) (h : k6 x1 x2 x3 σ = some (rr, τ)), W p l e { frames := 2, cells := 0, slots := 0, locals := 48 } s m args below meth c H locs 0 0 (MQ below (QI TM E rr τ) args s 0 0 E.2.2.1) (F0 m 6 ls [])) (k24 : Int32 → Int32 → Int32 → Int32 → Int32 → Mem → Option (Int32 × Mem)) (hk24 : ∀ (x1 : Int32) (x2 : Int32) (x3 : Int32) (x4 : Int32) (x5 : Int32) (σ : Mem) (H : Heap) (locs : List Loc) (ls : Array Slot) (hw : Wd TM E σ s H locs) (hl : lv_has ls 6 [(0, .ref (E.2.1 (0))), (1, .int x1), (2, .int x2), (3, .int x3), (4, .int x4), (5, .int x5)]) (h : k24 x1 x2 x3 x4 x5 σ = some (rr, τ)), W p l e { frames := 2, cells := 0, slots := 0, locals := 48 } s m args below meth c H locs 0 0 (MQ below (QI TM E rr τ) args s 0 0 E.2.2.1) (F0 m 24 ls [])) : ∀ (x1 : Int32) (x2 : Int32) (x3 : Int32) (x5 : Int32) (s0 : Int32) (s1 : Int32) (σ : Mem) (H : Heap) (locs : List Loc) (ls : Array Slot) (hw : Wd TM E σ s H locs) (hl : lv_has ls 6 [(0, .ref (E.2.1 (0))), (1, .int x1), (2, .int x2), (3, .int x3), (5, .int x5)]) (h : f_X12_take_62 k6 k24 x1 x2 x3 x5 s0 s1 σ = some (rr, τ)), W p l e { frames := 2, cells := 0, slots := 0, locals := 48 } s m args below meth c H locs 0 0 (MQ below (QI TM E rr τ) args s 0 0 E.2.2.1) (F0 m 62 ls [.int s1, .int s0]) := by
  obtain ⟨hx, hb, hml, hown, hts, hK, hSt, hlk, hr⟩ := id C
  intro x1 x2 x3 x5 s0 s1 σ H locs ls hw hl h
  unfold f_X12_take_62 at h
  refine lv_iadd hx hb dX12_take_62 ?_
  obtain ⟨x4_11, ex4_11, h⟩ := lt_at h
  refine q_top ex4_11 ?_
  refine lv_istore (lv' := [(4, .int x4_11), (0, .ref (E.2.1 (0))), (1, .int x1), (2, .int x2), (3, .int x3), (5, .int x5)]) hx hb dX12_take_63 hl (by decide) rfl (fun ls hl => ?_)
  obtain ⟨x5_12, ex5_12, h⟩ := lt_at h
  refine lv_iinc (v := x5_12) (lv' := [(5, .int x5_12), (4, .int x4_11), (0, .ref (E.2.1 (0))), (1, .int x1), (2, .int x2), (3, .int x3)]) hx hb dX12_take_65 hl (k := 5) rfl (by rw [ex5_12]; rfl) (by decide) rfl (fun ls hl => ?_)
  refine lv_goto (tgt := 24) hx hb dX12_take_68 (by decide) ?_
  exact hk24 _ _ _ _ _ _ _ _ _ hw (lv_sub hl [2, 3, 4, 5, 1, 0] rfl) h
set_option maxHeartbeats 4000000 in
set_option maxRecDepth 100000 in
theorem w_X12_take_24 {p : Program} {l : Launch} {e : Env} {s : State} {m : MethodId} {args : Array Value} {below : List Frame} {meth : Method} {c : Code} {E : EV} {rr : Int32} {τ : Mem} (C : Cx E p s m args meth c cX12_take 6 (some .int) RX12) (k6 : Int32 → Int32 → Int32 → Mem → Option (Int32 × Mem)) (hk6 : ∀ (x1 : Int32) (x2 : Int32) (x3 : Int32) (σ : Mem) (H : Heap) (locs : List Loc) (ls : Array Slot) (hw : Wd TM E σ s H locs) (hl : lv_has ls 6 [(0, .ref (E.2.1 (0))), (1, .int x1), (2, .int x2), (3, .int x3)]) (h : k6 x1 x2 x3 σ = some (rr, τ)), W p l e { frames := 2, cells := 0, slots := 0, locals := 48 } s m args below meth c H locs 0 0 (MQ below (QI TM E rr τ) args s 0 0 E.2.2.1) (F0 m 6 ls [])) : ∀ (n : Nat) (x1 : Int32) (x2 : Int32) (x3 : Int32) (x4 : Int32) (x5 : Int32) (σ : Mem) (H : Heap) (locs : List Loc) (ls : Array Slot) (hw : Wd TM E σ s H locs) (hl : lv_has ls 6 [(0, .ref (E.2.1 (0))), (1, .int x1), (2, .int x2), (3, .int x3), (4, .int x4), (5, .int x5)]) (h : fx6 (f_X12_take_24 k6) n x1 x2 x3 x4 x5 σ = some (rr, τ)), W p l e { frames := 2, cells := 0, slots := 0, locals := 48 } s m args below meth c H locs 0 0 (MQ below (QI TM E rr τ) args s 0 0 E.2.2.1) (F0 m 24 ls []) := by
  obtain ⟨hx, hb, hml, hown, hts, hK, hSt, hlk, hr⟩ := id C
  intro n
  induction n with
  | zero =>
    intro x1 x2 x3 x4 x5 σ H locs ls hw hl h
    have h : none = some (rr, τ) := h
    cases h
  | succ n hk24 =>
    intro x1 x2 x3 x4 x5 σ H locs ls hw hl h
    replace h : f_X12_take_24 k6 (fx6 (f_X12_take_24 k6) n) x1 x2 x3 x4 x5 σ = some (rr, τ) := h
    unfold f_X12_take_24 at h
    refine lv_iload hx hb dX12_take_24 (lv_at hl 5 rfl) ?_
    refine lv_aload_n hx hb dX12_take_26 rfl (lv_at hl 0 rfl) ?_
    refine gf_12_1 C hw tM_0 kw_1019 dX12_take_27 ?_
    refine lv_iconst (v := 3) hx hb dX12_take_30 (by decide) ?_
    refine q_ialdk C hw tM_1 (k := 3) (by rfl) (by decide) (by decide) dX12_take_31 ?_
    refine lv_icmp_ge (tgt := 71) hx hb dX12_take_32 (by decide) (fun c_2 => ?_) (fun c_2 => ?_)
    · replace h := it_at h c_2
      refine lv_iload hx hb dX12_take_71 (lv_at hl 4 rfl) ?_
      refine lv_iload_n hx hb dX12_take_73 rfl (lv_at hl 2 rfl) ?_
      refine lv_icmp_le (tgt := 89) hx hb dX12_take_74 (by decide) (fun c_3 => ?_) (fun c_3 => ?_)
      · replace h := it_at h c_3
        exact w_X12_take_89 C _ hk6 _ _ _ _ _ _ _ _ hw (lv_sub hl [0, 1, 2, 3, 4] rfl) h
      · replace h := ie_at h c_3
        refine lv_aload_n hx hb dX12_take_77 rfl (lv_at hl 0 rfl) ?_
        refine lv_iload_n hx hb dX12_take_78 rfl (lv_at hl 3 rfl) ?_
        obtain ⟨r_4, σ_5, h_6, h⟩ := bd_at h
        refine q_afterI hw (q_runV C hw hl.1 (As := [.int x3]) (rest := []) (m_X12_lates l E x3 σ r_4 σ_5 h_6) yq_X12_lates tM_0 rfl rfl kw_1358 ⟨Nat.le_of_ble_eq_true rfl, Nat.le_of_ble_eq_true rfl⟩ rfl (Nat.le_of_ble_eq_true rfl) ⟨Nat.zero_le _, Nat.zero_le _⟩ dX12_take_79) (fun H locs hw => ?_)
        refine lv_if_ne (tgt := 89) hx hb dX12_take_82 (by decide) (fun c_7 => ?_) (fun c_7 => ?_)
        · replace h := ie_at h c_7
          exact w_X12_take_89 C _ hk6 _ _ _ _ _ _ _ _ hw (lv_sub hl [0, 1, 2, 3, 4] rfl) h
        · replace h := it_at h c_7
          refine lv_iconst (v := 1) hx hb dX12_take_85 (by decide) ?_
          refine lv_goto (tgt := 90) hx hb dX12_take_86 (by decide) ?_
          exact w_X12_take_90 C _ hk6 _ _ _ _ _ _ _ _ _ hw (lv_sub hl [0, 1, 2, 3, 4] rfl) h
    · replace h := ie_at h c_2
      refine lv_iload hx hb dX12_take_35 (lv_at hl 4 rfl) ?_
      refine lv_iload_n hx hb dX12_take_37 rfl (lv_at hl 3 rfl) ?_
      refine lv_iload hx hb dX12_take_38 (lv_at hl 5 rfl) ?_
      refine lv_ishr hx hb dX12_take_40 ?_
      refine lv_iconst (v := 1) hx hb dX12_take_41 (by decide) ?_
      refine lv_iand hx hb dX12_take_42 ?_
      refine lv_iconst (v := 1) hx hb dX12_take_43 (by decide) ?_
      refine lv_icmp_ne (tgt := 61) hx hb dX12_take_44 (by decide) (fun c_8 => ?_) (fun c_8 => ?_)
      · replace h := ie_at h c_8
        refine lv_iconst (v := 0) hx hb dX12_take_61 (by decide) ?_
        exact w_X12_take_62 C _ hk6 _ hk24 _ _ _ _ _ _ _ _ _ _ hw (lv_sub hl [0, 1, 2, 3, 5] rfl) h
      · replace h := it_at h c_8
        refine lv_aload_n hx hb dX12_take_47 rfl (lv_at hl 0 rfl) ?_
        refine gf_12_1 C hw tM_0 kw_1019 dX12_take_48 ?_
        refine lv_sipush (v := 1049) hx hb dX12_take_51 (by decide) ?_
        refine lv_iload hx hb dX12_take_54 (lv_at hl 5 rfl) ?_
        refine lv_iadd hx hb dX12_take_56 ?_
        obtain ⟨g_9, h⟩ := gd_at h
        refine q_iald C hw tM_1 g_9 dX12_take_57 ?_
        refine lv_goto (tgt := 62) hx hb dX12_take_58 (by decide) ?_
        exact w_X12_take_62 C _ hk6 _ hk24 _ _ _ _ _ _ _ _ _ _ hw (lv_sub hl [0, 1, 2, 3, 5] rfl) h
set_option maxHeartbeats 4000000 in
set_option maxRecDepth 100000 in
theorem w_X12_take_6 {p : Program} {l : Launch} {e : Env} {s : State} {m : MethodId} {args : Array Value} {below : List Frame} {meth : Method} {c : Code} {E : EV} {rr : Int32} {τ : Mem} (C : Cx E p s m args meth c cX12_take 6 (some .int) RX12) : ∀ (n : Nat) (x1 : Int32) (x2 : Int32) (x3 : Int32) (σ : Mem) (H : Heap) (locs : List Loc) (ls : Array Slot) (hw : Wd TM E σ s H locs) (hl : lv_has ls 6 [(0, .ref (E.2.1 (0))), (1, .int x1), (2, .int x2), (3, .int x3)]) (h : fx4 (f_X12_take_6) n x1 x2 x3 σ = some (rr, τ)), W p l e { frames := 2, cells := 0, slots := 0, locals := 48 } s m args below meth c H locs 0 0 (MQ below (QI TM E rr τ) args s 0 0 E.2.2.1) (F0 m 6 ls []) := by
  obtain ⟨hx, hb, hml, hown, hts, hK, hSt, hlk, hr⟩ := id C
  intro n
  induction n with
  | zero =>
    intro x1 x2 x3 σ H locs ls hw hl h
    have h : none = some (rr, τ) := h
    cases h
  | succ n hk6 =>
    intro x1 x2 x3 σ H locs ls hw hl h
    replace h : f_X12_take_6 (fx4 (f_X12_take_6) n) x1 x2 x3 σ = some (rr, τ) := h
    unfold f_X12_take_6 at h
    refine lv_iload_n hx hb dX12_take_6 rfl (lv_at hl 3 rfl) ?_
    refine lv_iconst (v := 1) hx hb dX12_take_7 (by decide) ?_
    refine lv_aload_n hx hb dX12_take_8 rfl (lv_at hl 0 rfl) ?_
    refine gf_12_1 C hw tM_0 kw_1019 dX12_take_9 ?_
    refine lv_iconst (v := 3) hx hb dX12_take_12 (by decide) ?_
    refine q_ialdk C hw tM_1 (k := 3) (by rfl) (by decide) (by decide) dX12_take_13 ?_
    refine lv_ishl hx hb dX12_take_14 ?_
    refine lv_icmp_ge (tgt := 121) hx hb dX12_take_15 (by decide) (fun c_1 => ?_) (fun c_1 => ?_)
    · replace h := it_at h c_1
      refine lv_iload_n hx hb dX12_take_121 rfl (lv_at hl 1 rfl) ?_
      obtain ⟨rfl, rfl⟩ := ret_at h
      exact q_iret C hw dX12_take_122
    · replace h := ie_at h c_1
      refine lv_iconst (v := 0) hx hb dX12_take_18 (by decide) ?_
      refine lv_istore (lv' := [(4, .int (0 : Int32)), (0, .ref (E.2.1 (0))), (1, .int x1), (2, .int x2), (3, .int x3)]) hx hb dX12_take_19 hl (by decide) rfl (fun ls hl => ?_)
      refine lv_iconst (v := 0) hx hb dX12_take_21 (by decide) ?_
      refine lv_istore (lv' := [(5, .int (0 : Int32)), (4, .int (0 : Int32)), (0, .ref (E.2.1 (0))), (1, .int x1), (2, .int x2), (3, .int x3)]) hx hb dX12_take_22 hl (by decide) rfl (fun ls hl => ?_)
      exact w_X12_take_24 C _ hk6 _ _ _ _ _ _ _ _ _ _ hw (lv_sub hl [2, 3, 4, 5, 1, 0] rfl) h
set_option maxHeartbeats 4000000 in
set_option maxRecDepth 100000 in
theorem m_X12_take (l : Launch) (E : EV) (σ : Mem) (rr : Int32) (τ : Mem) (h : f_X12_take  σ = some (rr, τ)) : MI TM l E yX12_take cX12_take 6 (some .int) 2 48 [.ref (E.2.1 (0))] σ rr τ := by
  refine mt_start RX12 (by decide +kernel) rfl (Nat.le_of_ble_eq_true rfl) (fun p e s m args below meth c ls C hw hl => ?_)
  replace hl : lv_has ls 6 [(0, .ref (E.2.1 (0)))] := hl
  obtain ⟨hx, hb, hml, hown, hts, hK, hSt, hlk, hr⟩ := id C
  unfold f_X12_take at h
  refine lv_iconst (v := 0) hx hb dX12_take_0 (by decide) ?_
  refine lv_istore_n (lv' := [(1, .int (0 : Int32)), (0, .ref (E.2.1 (0)))]) hx hb dX12_take_1 rfl hl (by decide) rfl (fun ls hl => ?_)
  refine lv_iconst (v := 0) hx hb dX12_take_2 (by decide) ?_
  refine lv_istore_n (lv' := [(2, .int (0 : Int32)), (1, .int (0 : Int32)), (0, .ref (E.2.1 (0)))]) hx hb dX12_take_3 rfl hl (by decide) rfl (fun ls hl => ?_)
  refine lv_iconst (v := 1) hx hb dX12_take_4 (by decide) ?_
  refine lv_istore_n (lv' := [(3, .int (1 : Int32)), (2, .int (0 : Int32)), (1, .int (0 : Int32)), (0, .ref (E.2.1 (0)))]) hx hb dX12_take_5 rfl hl (by decide) rfl (fun ls hl => ?_)
  exact w_X12_take_6 C _ _ _ _ _ _ _ _ hw (lv_sub hl [3, 2, 1, 0] rfl) h
def f_X12_trace_20 (x1 : Int32) (s0 : Int32) (s1 : Int32) (s2 : Int32) (σ : Mem) : Option (Int32 × Mem) :=
  bd (f_X12_in s0 s1 (s2 - (1 : Int32)) σ) fun r_2 σ_3 =>
  if r_2 = 0 then
    (some ((-1 : Int32), σ_3))
  else
    gd (ib x1 20) <|
    some (gI σ_3 15 x1.toNatClampNeg, σ_3)
def f_X12_trace (p1 : Int32) (σ : Mem) : Option (Int32 × Mem) :=
  if (20 : Int32) ≤ (gI σ 0 35) then
    (f_X12_trace_20 p1 p1 (0 : Int32) (20 : Int32) σ)
  else
    f_X12_trace_20 p1 p1 (0 : Int32) (gI σ 0 35) σ
set_option maxHeartbeats 4000000 in
set_option maxRecDepth 100000 in
theorem w_X12_trace_20 {p : Program} {l : Launch} {e : Env} {s : State} {m : MethodId} {args : Array Value} {below : List Frame} {meth : Method} {c : Code} {E : EV} {rr : Int32} {τ : Mem} (C : Cx E p s m args meth c cX12_trace 2 (some .int) RX12) : ∀ (x1 : Int32) (s0 : Int32) (s1 : Int32) (s2 : Int32) (σ : Mem) (H : Heap) (locs : List Loc) (ls : Array Slot) (hw : Wd TM E σ s H locs) (hl : lv_has ls 2 [(0, .ref (E.2.1 (0))), (1, .int x1)]) (h : f_X12_trace_20 x1 s0 s1 s2 σ = some (rr, τ)), W p l e { frames := 1, cells := 0, slots := 0, locals := 22 } s m args below meth c H locs 0 0 (MQ below (QI TM E rr τ) args s 0 0 E.2.2.1) (F0 m 20 ls [.int s2, .int s1, .int s0]) := by
  obtain ⟨hx, hb, hml, hown, hts, hK, hSt, hlk, hr⟩ := id C
  intro x1 s0 s1 s2 σ H locs ls hw hl h
  unfold f_X12_trace_20 at h
  refine lv_iconst (v := 1) hx hb dX12_trace_20 (by decide) ?_
  refine lv_isub hx hb dX12_trace_21 ?_
  obtain ⟨r_2, σ_3, h_4, h⟩ := bd_at h
  refine q_afterI hw (q_runS C hw hl.1 (As := [.int s0, .int s1, .int (s2 - (1 : Int32))]) (rest := []) (m_X12_in l E s0 s1 (s2 - (1 : Int32)) σ r_2 σ_3 h_4) yq_X12_in kw_1142 ⟨Nat.le_of_ble_eq_true rfl, Nat.le_of_ble_eq_true rfl⟩ rfl (Nat.le_of_ble_eq_true rfl) ⟨Nat.zero_le _, Nat.zero_le _⟩ dX12_trace_22) (fun H locs hw => ?_)
  refine lv_if_eq (tgt := 37) hx hb dX12_trace_25 (by decide) (fun c_5 => ?_) (fun c_5 => ?_)
  · replace h := it_at h c_5
    refine lv_iconst (v := (-1)) hx hb dX12_trace_37 (by decide) ?_
    obtain ⟨rfl, rfl⟩ := ret_at h
    exact q_iret C hw dX12_trace_38
  · replace h := ie_at h c_5
    refine lv_aload_n hx hb dX12_trace_28 rfl (lv_at hl 0 rfl) ?_
    refine gf_12_34 C hw tM_0 kw_1052 dX12_trace_29 ?_
    refine lv_iload_n hx hb dX12_trace_32 rfl (lv_at hl 1 rfl) ?_
    obtain ⟨g_6, h⟩ := gd_at h
    refine q_iald C hw tM_15 g_6 dX12_trace_33 ?_
    refine lv_goto (tgt := 38) hx hb dX12_trace_34 (by decide) ?_
    obtain ⟨rfl, rfl⟩ := ret_at h
    exact q_iret C hw dX12_trace_38
set_option maxHeartbeats 4000000 in
set_option maxRecDepth 100000 in
theorem m_X12_trace (l : Launch) (E : EV) (p1 : Int32) (σ : Mem) (rr : Int32) (τ : Mem) (h : f_X12_trace p1 σ = some (rr, τ)) : MI TM l E yX12_trace cX12_trace 2 (some .int) 1 22 [.ref (E.2.1 (0)), .int p1] σ rr τ := by
  refine mt_start RX12 (by decide +kernel) rfl (Nat.le_of_ble_eq_true rfl) (fun p e s m args below meth c ls C hw hl => ?_)
  replace hl : lv_has ls 2 [(0, .ref (E.2.1 (0))), (1, .int p1)] := hl
  obtain ⟨hx, hb, hml, hown, hts, hK, hSt, hlk, hr⟩ := id C
  unfold f_X12_trace at h
  refine lv_iload_n hx hb dX12_trace_0 rfl (lv_at hl 1 rfl) ?_
  refine lv_iconst (v := 0) hx hb dX12_trace_1 (by decide) ?_
  refine lv_aload_n hx hb dX12_trace_2 rfl (lv_at hl 0 rfl) ?_
  refine gf_12_35 C hw tM_0 kw_1053 dX12_trace_3 ?_
  refine lv_bipush (v := 20) hx hb dX12_trace_6 (by decide) ?_
  refine lv_icmp_ge (tgt := 18) hx hb dX12_trace_8 (by decide) (fun c_1 => ?_) (fun c_1 => ?_)
  · replace h := it_at h c_1
    refine lv_bipush (v := 20) hx hb dX12_trace_18 (by decide) ?_
    exact w_X12_trace_20 C _ _ _ _ _ _ _ _ hw (lv_sub hl [0, 1] rfl) h
  · replace h := ie_at h c_1
    refine lv_aload_n hx hb dX12_trace_11 rfl (lv_at hl 0 rfl) ?_
    refine gf_12_35 C hw tM_0 kw_1053 dX12_trace_12 ?_
    refine lv_goto (tgt := 20) hx hb dX12_trace_15 (by decide) ?_
    exact w_X12_trace_20 C _ _ _ _ _ _ _ _ hw (lv_sub hl [0, 1] rfl) h
def f_X12_undo_12 (k12 : Int32 → Mem → Option (Int32 × Mem)) (x1 : Int32) (σ : Mem) : Option (Int32 × Mem) :=
  if (1055 : Int32) ≤ x1 then
    (some (gI σ 1 0, σ))
  else
    gd (ib x1 1055) <|
    gd (ib x1 1055) <|
    lt (sI σ 1 x1.toNatClampNeg (gI σ 2 x1.toNatClampNeg)) fun σ_4 =>
    lt (x1 + (1 : Int32)) fun x1_6 =>
    k12 x1_6 σ_4
def f_X12_undo (σ : Mem) : Option (Int32 × Mem) :=
  if (gI σ 0 3) = 0 then
    (some ((-3 : Int32), σ))
  else
    fx2 (f_X12_undo_12) FU (0 : Int32) σ
set_option maxHeartbeats 4000000 in
set_option maxRecDepth 100000 in
theorem w_X12_undo_12 {p : Program} {l : Launch} {e : Env} {s : State} {m : MethodId} {args : Array Value} {below : List Frame} {meth : Method} {c : Code} {E : EV} {rr : Int32} {τ : Mem} (C : Cx E p s m args meth c cX12_undo 2 (some .int) RX12) : ∀ (n : Nat) (x1 : Int32) (σ : Mem) (H : Heap) (locs : List Loc) (ls : Array Slot) (hw : Wd TM E σ s H locs) (hl : lv_has ls 2 [(0, .ref (E.2.1 (0))), (1, .int x1)]) (h : fx2 (f_X12_undo_12) n x1 σ = some (rr, τ)), W p l e { frames := 0, cells := 0, slots := 0, locals := 0 } s m args below meth c H locs 0 0 (MQ below (QI TM E rr τ) args s 0 0 E.2.2.1) (F0 m 12 ls []) := by
  obtain ⟨hx, hb, hml, hown, hts, hK, hSt, hlk, hr⟩ := id C
  intro n
  induction n with
  | zero =>
    intro x1 σ H locs ls hw hl h
    have h : none = some (rr, τ) := h
    cases h
  | succ n hk12 =>
    intro x1 σ H locs ls hw hl h
    replace h : f_X12_undo_12 (fx2 (f_X12_undo_12) n) x1 σ = some (rr, τ) := h
    unfold f_X12_undo_12 at h
    refine lv_iload_n hx hb dX12_undo_12 rfl (lv_at hl 1 rfl) ?_
    refine lv_sipush (v := 1055) hx hb dX12_undo_13 (by decide) ?_
    refine lv_icmp_ge (tgt := 37) hx hb dX12_undo_16 (by decide) (fun c_2 => ?_) (fun c_2 => ?_)
    · replace h := it_at h c_2
      refine lv_aload_n hx hb dX12_undo_37 rfl (lv_at hl 0 rfl) ?_
      refine gf_12_1 C hw tM_0 kw_1019 dX12_undo_38 ?_
      refine lv_iconst (v := 0) hx hb dX12_undo_41 (by decide) ?_
      refine q_ialdk C hw tM_1 (k := 0) (by rfl) (by decide) (by decide) dX12_undo_42 ?_
      obtain ⟨rfl, rfl⟩ := ret_at h
      exact q_iret C hw dX12_undo_43
    · replace h := ie_at h c_2
      refine lv_aload_n hx hb dX12_undo_19 rfl (lv_at hl 0 rfl) ?_
      refine gf_12_1 C hw tM_0 kw_1019 dX12_undo_20 ?_
      refine lv_iload_n hx hb dX12_undo_23 rfl (lv_at hl 1 rfl) ?_
      refine lv_aload_n hx hb dX12_undo_24 rfl (lv_at hl 0 rfl) ?_
      refine gf_12_2 C hw tM_0 kw_1020 dX12_undo_25 ?_
      refine lv_iload_n hx hb dX12_undo_28 rfl (lv_at hl 1 rfl) ?_
      obtain ⟨g_3, h⟩ := gd_at h
      refine q_iald C hw tM_2 g_3 dX12_undo_29 ?_
      obtain ⟨g_5, h⟩ := gd_at h
      obtain ⟨σ_4, eσ_4, h⟩ := lt_at h
      refine q_iast C hw tM_1 g_5 eσ_4 dX12_undo_30 (fun H locs hw => ?_)
      obtain ⟨x1_6, ex1_6, h⟩ := lt_at h
      refine lv_iinc (v := x1_6) (lv' := [(1, .int x1_6), (0, .ref (E.2.1 (0)))]) hx hb dX12_undo_31 hl (k := 1) rfl (by rw [ex1_6]; rfl) (by decide) rfl (fun ls hl => ?_)
      refine lv_goto (tgt := 12) hx hb dX12_undo_34 (by decide) ?_
      exact hk12 _ _ _ _ _ hw (lv_sub hl [1, 0] rfl) h
set_option maxHeartbeats 4000000 in
set_option maxRecDepth 100000 in
theorem m_X12_undo (l : Launch) (E : EV) (σ : Mem) (rr : Int32) (τ : Mem) (h : f_X12_undo  σ = some (rr, τ)) : MI TM l E yX12_undo cX12_undo 2 (some .int) 0 0 [.ref (E.2.1 (0))] σ rr τ := by
  refine mt_start RX12 (by decide +kernel) rfl (Nat.le_of_ble_eq_true rfl) (fun p e s m args below meth c ls C hw hl => ?_)
  replace hl : lv_has ls 2 [(0, .ref (E.2.1 (0)))] := hl
  obtain ⟨hx, hb, hml, hown, hts, hK, hSt, hlk, hr⟩ := id C
  unfold f_X12_undo at h
  refine lv_aload_n hx hb dX12_undo_0 rfl (lv_at hl 0 rfl) ?_
  refine gf_12_3 C hw tM_0 kw_1021 dX12_undo_1 ?_
  refine lv_if_ne (tgt := 10) hx hb dX12_undo_4 (by decide) (fun c_1 => ?_) (fun c_1 => ?_)
  · replace h := ie_at h c_1
    refine lv_iconst (v := 0) hx hb dX12_undo_10 (by decide) ?_
    refine lv_istore_n (lv' := [(1, .int (0 : Int32)), (0, .ref (E.2.1 (0)))]) hx hb dX12_undo_11 rfl hl (by decide) rfl (fun ls hl => ?_)
    exact w_X12_undo_12 C _ _ _ _ _ _ hw (lv_sub hl [1, 0] rfl) h
  · replace h := it_at h c_1
    refine lv_bipush (v := (-3)) hx hb dX12_undo_7 (by decide) ?_
    obtain ⟨rfl, rfl⟩ := ret_at h
    exact q_iret C hw dX12_undo_9
def f_X12_wind (p1 : Int32) (p2 : Int32) (p3 : Int32) (p4 : Int32) (p5 : Int32) (p6 : Int32) (σ : Mem) : Option (Int32 × Mem) :=
  bd (f_X12_isWind p1 σ) fun r_1 σ_2 =>
  if r_1 = 0 then
    (some ((-1 : Int32), σ_2))
  else
    bd (f_X12_in p2 (0 : Int32) (1000 : Int32) σ_2) fun r_5 σ_6 =>
    if r_5 = 0 then
      (some ((-2 : Int32), σ_6))
    else
      bd (f_X12_in p3 (0 : Int32) (1000 : Int32) σ_6) fun r_9 σ_10 =>
      if r_9 = 0 then
        (some ((-2 : Int32), σ_10))
      else
        bd (f_X12_in p4 (0 : Int32) (1000 : Int32) σ_10) fun r_13 σ_14 =>
        if r_13 = 0 then
          (some ((-2 : Int32), σ_14))
        else
          bd (f_X12_in p5 (0 : Int32) (1000 : Int32) σ_14) fun r_17 σ_18 =>
          if r_17 = 0 then
            (some ((-2 : Int32), σ_18))
          else
            bd (f_X12_in p6 (0 : Int32) (1000 : Int32) σ_18) fun r_21 σ_22 =>
            if r_21 = 0 then
              (some ((-2 : Int32), σ_22))
            else
              if ((((p2 + p3) + p4) + p5) + p6) ≤ (1000 : Int32) then
                (lt ((851 : Int32) + ((6 : Int32) * p1)) fun x7_26 =>
                gd (ib x7_26 1055) <|
                lt (sI σ_22 1 x7_26.toNatClampNeg p2) fun σ_27 =>
                gd (ib (x7_26 + (1 : Int32)) 1055) <|
                lt (sI σ_27 1 (x7_26 + (1 : Int32)).toNatClampNeg p3) fun σ_29 =>
                gd (ib (x7_26 + (2 : Int32)) 1055) <|
                lt (sI σ_29 1 (x7_26 + (2 : Int32)).toNatClampNeg p4) fun σ_31 =>
                gd (ib (x7_26 + (3 : Int32)) 1055) <|
                lt (sI σ_31 1 (x7_26 + (3 : Int32)).toNatClampNeg p5) fun σ_33 =>
                gd (ib (x7_26 + (4 : Int32)) 1055) <|
                lt (sI σ_33 1 (x7_26 + (4 : Int32)).toNatClampNeg p6) fun σ_35 =>
                gd (ib (x7_26 + (5 : Int32)) 1055) <|
                lt (sI σ_35 1 (x7_26 + (5 : Int32)).toNatClampNeg ((((((1000 : Int32) - p2) - p3) - p4) - p5) - p6)) fun σ_37 =>
                some ((1 : Int32), σ_37))
              else
                some ((-2 : Int32), σ_22)
set_option maxHeartbeats 4000000 in
set_option maxRecDepth 100000 in
theorem m_X12_wind (l : Launch) (E : EV) (p1 : Int32) (p2 : Int32) (p3 : Int32) (p4 : Int32) (p5 : Int32) (p6 : Int32) (σ : Mem) (rr : Int32) (τ : Mem) (h : f_X12_wind p1 p2 p3 p4 p5 p6 σ = some (rr, τ)) : MI TM l E yX12_wind cX12_wind 8 (some .int) 2 42 [.ref (E.2.1 (0)), .int p1, .int p2, .int p3, .int p4, .int p5, .int p6] σ rr τ := by
  refine mt_start RX12 (by decide +kernel) rfl (Nat.le_of_ble_eq_true rfl) (fun p e s m args below meth c ls C hw hl => ?_)
  replace hl : lv_has ls 8 [(0, .ref (E.2.1 (0))), (1, .int p1), (2, .int p2), (3, .int p3), (4, .int p4), (5, .int p5), (6, .int p6)] := hl
  obtain ⟨hx, hb, hml, hown, hts, hK, hSt, hlk, hr⟩ := id C
  unfold f_X12_wind at h
  refine lv_iload_n hx hb dX12_wind_0 rfl (lv_at hl 1 rfl) ?_
  obtain ⟨r_1, σ_2, h_3, h⟩ := bd_at h
  refine q_afterI hw (q_runS C hw hl.1 (As := [.int p1]) (rest := []) (m_X12_isWind l E p1 σ r_1 σ_2 h_3) yq_X12_isWind kw_1217 ⟨Nat.le_of_ble_eq_true rfl, Nat.le_of_ble_eq_true rfl⟩ rfl (Nat.le_of_ble_eq_true rfl) ⟨Nat.zero_le _, Nat.zero_le _⟩ dX12_wind_1) (fun H locs hw => ?_)
  refine lv_if_ne (tgt := 9) hx hb dX12_wind_4 (by decide) (fun c_4 => ?_) (fun c_4 => ?_)
  · replace h := ie_at h c_4
    refine lv_iload_n hx hb dX12_wind_9 rfl (lv_at hl 2 rfl) ?_
    refine lv_iconst (v := 0) hx hb dX12_wind_10 (by decide) ?_
    refine lv_sipush (v := 1000) hx hb dX12_wind_11 (by decide) ?_
    obtain ⟨r_5, σ_6, h_7, h⟩ := bd_at h
    refine q_afterI hw (q_runS C hw hl.1 (As := [.int p2, .int (0 : Int32), .int (1000 : Int32)]) (rest := []) (m_X12_in l E p2 (0 : Int32) (1000 : Int32) σ_2 r_5 σ_6 h_7) yq_X12_in kw_1142 ⟨Nat.le_of_ble_eq_true rfl, Nat.le_of_ble_eq_true rfl⟩ rfl (Nat.le_of_ble_eq_true rfl) ⟨Nat.zero_le _, Nat.zero_le _⟩ dX12_wind_14) (fun H locs hw => ?_)
    refine lv_if_eq (tgt := 85) hx hb dX12_wind_17 (by decide) (fun c_8 => ?_) (fun c_8 => ?_)
    · replace h := it_at h c_8
      refine lv_bipush (v := (-2)) hx hb dX12_wind_85 (by decide) ?_
      obtain ⟨rfl, rfl⟩ := ret_at h
      exact q_iret C hw dX12_wind_87
    · replace h := ie_at h c_8
      refine lv_iload_n hx hb dX12_wind_20 rfl (lv_at hl 3 rfl) ?_
      refine lv_iconst (v := 0) hx hb dX12_wind_21 (by decide) ?_
      refine lv_sipush (v := 1000) hx hb dX12_wind_22 (by decide) ?_
      obtain ⟨r_9, σ_10, h_11, h⟩ := bd_at h
      refine q_afterI hw (q_runS C hw hl.1 (As := [.int p3, .int (0 : Int32), .int (1000 : Int32)]) (rest := []) (m_X12_in l E p3 (0 : Int32) (1000 : Int32) σ_6 r_9 σ_10 h_11) yq_X12_in kw_1142 ⟨Nat.le_of_ble_eq_true rfl, Nat.le_of_ble_eq_true rfl⟩ rfl (Nat.le_of_ble_eq_true rfl) ⟨Nat.zero_le _, Nat.zero_le _⟩ dX12_wind_25) (fun H locs hw => ?_)
      refine lv_if_eq (tgt := 85) hx hb dX12_wind_28 (by decide) (fun c_12 => ?_) (fun c_12 => ?_)
      · replace h := it_at h c_12
        refine lv_bipush (v := (-2)) hx hb dX12_wind_85 (by decide) ?_
        obtain ⟨rfl, rfl⟩ := ret_at h
        exact q_iret C hw dX12_wind_87
      · replace h := ie_at h c_12
        refine lv_iload hx hb dX12_wind_31 (lv_at hl 4 rfl) ?_
        refine lv_iconst (v := 0) hx hb dX12_wind_33 (by decide) ?_
        refine lv_sipush (v := 1000) hx hb dX12_wind_34 (by decide) ?_
        obtain ⟨r_13, σ_14, h_15, h⟩ := bd_at h
        refine q_afterI hw (q_runS C hw hl.1 (As := [.int p4, .int (0 : Int32), .int (1000 : Int32)]) (rest := []) (m_X12_in l E p4 (0 : Int32) (1000 : Int32) σ_10 r_13 σ_14 h_15) yq_X12_in kw_1142 ⟨Nat.le_of_ble_eq_true rfl, Nat.le_of_ble_eq_true rfl⟩ rfl (Nat.le_of_ble_eq_true rfl) ⟨Nat.zero_le _, Nat.zero_le _⟩ dX12_wind_37) (fun H locs hw => ?_)
        refine lv_if_eq (tgt := 85) hx hb dX12_wind_40 (by decide) (fun c_16 => ?_) (fun c_16 => ?_)
        · replace h := it_at h c_16
          refine lv_bipush (v := (-2)) hx hb dX12_wind_85 (by decide) ?_
          obtain ⟨rfl, rfl⟩ := ret_at h
          exact q_iret C hw dX12_wind_87
        · replace h := ie_at h c_16
          refine lv_iload hx hb dX12_wind_43 (lv_at hl 5 rfl) ?_
          refine lv_iconst (v := 0) hx hb dX12_wind_45 (by decide) ?_
          refine lv_sipush (v := 1000) hx hb dX12_wind_46 (by decide) ?_
          obtain ⟨r_17, σ_18, h_19, h⟩ := bd_at h
          refine q_afterI hw (q_runS C hw hl.1 (As := [.int p5, .int (0 : Int32), .int (1000 : Int32)]) (rest := []) (m_X12_in l E p5 (0 : Int32) (1000 : Int32) σ_14 r_17 σ_18 h_19) yq_X12_in kw_1142 ⟨Nat.le_of_ble_eq_true rfl, Nat.le_of_ble_eq_true rfl⟩ rfl (Nat.le_of_ble_eq_true rfl) ⟨Nat.zero_le _, Nat.zero_le _⟩ dX12_wind_49) (fun H locs hw => ?_)
          refine lv_if_eq (tgt := 85) hx hb dX12_wind_52 (by decide) (fun c_20 => ?_) (fun c_20 => ?_)
          · replace h := it_at h c_20
            refine lv_bipush (v := (-2)) hx hb dX12_wind_85 (by decide) ?_
            obtain ⟨rfl, rfl⟩ := ret_at h
            exact q_iret C hw dX12_wind_87
          · replace h := ie_at h c_20
            refine lv_iload hx hb dX12_wind_55 (lv_at hl 6 rfl) ?_
            refine lv_iconst (v := 0) hx hb dX12_wind_57 (by decide) ?_
            refine lv_sipush (v := 1000) hx hb dX12_wind_58 (by decide) ?_
            obtain ⟨r_21, σ_22, h_23, h⟩ := bd_at h
            refine q_afterI hw (q_runS C hw hl.1 (As := [.int p6, .int (0 : Int32), .int (1000 : Int32)]) (rest := []) (m_X12_in l E p6 (0 : Int32) (1000 : Int32) σ_18 r_21 σ_22 h_23) yq_X12_in kw_1142 ⟨Nat.le_of_ble_eq_true rfl, Nat.le_of_ble_eq_true rfl⟩ rfl (Nat.le_of_ble_eq_true rfl) ⟨Nat.zero_le _, Nat.zero_le _⟩ dX12_wind_61) (fun H locs hw => ?_)
            refine lv_if_eq (tgt := 85) hx hb dX12_wind_64 (by decide) (fun c_24 => ?_) (fun c_24 => ?_)
            · replace h := it_at h c_24
              refine lv_bipush (v := (-2)) hx hb dX12_wind_85 (by decide) ?_
              obtain ⟨rfl, rfl⟩ := ret_at h
              exact q_iret C hw dX12_wind_87
            · replace h := ie_at h c_24
              refine lv_iload_n hx hb dX12_wind_67 rfl (lv_at hl 2 rfl) ?_
              refine lv_iload_n hx hb dX12_wind_68 rfl (lv_at hl 3 rfl) ?_
              refine lv_iadd hx hb dX12_wind_69 ?_
              refine lv_iload hx hb dX12_wind_70 (lv_at hl 4 rfl) ?_
              refine lv_iadd hx hb dX12_wind_72 ?_
              refine lv_iload hx hb dX12_wind_73 (lv_at hl 5 rfl) ?_
              refine lv_iadd hx hb dX12_wind_75 ?_
              refine lv_iload hx hb dX12_wind_76 (lv_at hl 6 rfl) ?_
              refine lv_iadd hx hb dX12_wind_78 ?_
              refine lv_sipush (v := 1000) hx hb dX12_wind_79 (by decide) ?_
              refine lv_icmp_le (tgt := 88) hx hb dX12_wind_82 (by decide) (fun c_25 => ?_) (fun c_25 => ?_)
              · replace h := it_at h c_25
                refine lv_sipush (v := 851) hx hb dX12_wind_88 (by decide) ?_
                refine lv_bipush (v := 6) hx hb dX12_wind_91 (by decide) ?_
                refine lv_iload_n hx hb dX12_wind_93 rfl (lv_at hl 1 rfl) ?_
                refine lv_imul hx hb dX12_wind_94 ?_
                refine lv_iadd hx hb dX12_wind_95 ?_
                obtain ⟨x7_26, ex7_26, h⟩ := lt_at h
                refine q_top ex7_26 ?_
                refine lv_istore (lv' := [(7, .int x7_26), (0, .ref (E.2.1 (0))), (1, .int p1), (2, .int p2), (3, .int p3), (4, .int p4), (5, .int p5), (6, .int p6)]) hx hb dX12_wind_96 hl (by decide) rfl (fun ls hl => ?_)
                refine lv_aload_n hx hb dX12_wind_98 rfl (lv_at hl 1 rfl) ?_
                refine gf_12_1 C hw tM_0 kw_1019 dX12_wind_99 ?_
                refine lv_iload hx hb dX12_wind_102 (lv_at hl 0 rfl) ?_
                refine lv_iload_n hx hb dX12_wind_104 rfl (lv_at hl 3 rfl) ?_
                obtain ⟨g_28, h⟩ := gd_at h
                obtain ⟨σ_27, eσ_27, h⟩ := lt_at h
                refine q_iast C hw tM_1 g_28 eσ_27 dX12_wind_105 (fun H locs hw => ?_)
                refine lv_aload_n hx hb dX12_wind_106 rfl (lv_at hl 1 rfl) ?_
                refine gf_12_1 C hw tM_0 kw_1019 dX12_wind_107 ?_
                refine lv_iload hx hb dX12_wind_110 (lv_at hl 0 rfl) ?_
                refine lv_iconst (v := 1) hx hb dX12_wind_112 (by decide) ?_
                refine lv_iadd hx hb dX12_wind_113 ?_
                refine lv_iload_n hx hb dX12_wind_114 rfl (lv_at hl 4 rfl) ?_
                obtain ⟨g_30, h⟩ := gd_at h
                obtain ⟨σ_29, eσ_29, h⟩ := lt_at h
                refine q_iast C hw tM_1 g_30 eσ_29 dX12_wind_115 (fun H locs hw => ?_)
                refine lv_aload_n hx hb dX12_wind_116 rfl (lv_at hl 1 rfl) ?_
                refine gf_12_1 C hw tM_0 kw_1019 dX12_wind_117 ?_
                refine lv_iload hx hb dX12_wind_120 (lv_at hl 0 rfl) ?_
                refine lv_iconst (v := 2) hx hb dX12_wind_122 (by decide) ?_
                refine lv_iadd hx hb dX12_wind_123 ?_
                refine lv_iload hx hb dX12_wind_124 (lv_at hl 5 rfl) ?_
                obtain ⟨g_32, h⟩ := gd_at h
                obtain ⟨σ_31, eσ_31, h⟩ := lt_at h
                refine q_iast C hw tM_1 g_32 eσ_31 dX12_wind_126 (fun H locs hw => ?_)
                refine lv_aload_n hx hb dX12_wind_127 rfl (lv_at hl 1 rfl) ?_
                refine gf_12_1 C hw tM_0 kw_1019 dX12_wind_128 ?_
                refine lv_iload hx hb dX12_wind_131 (lv_at hl 0 rfl) ?_
                refine lv_iconst (v := 3) hx hb dX12_wind_133 (by decide) ?_
                refine lv_iadd hx hb dX12_wind_134 ?_
                refine lv_iload hx hb dX12_wind_135 (lv_at hl 6 rfl) ?_
                obtain ⟨g_34, h⟩ := gd_at h
                obtain ⟨σ_33, eσ_33, h⟩ := lt_at h
                refine q_iast C hw tM_1 g_34 eσ_33 dX12_wind_137 (fun H locs hw => ?_)
                refine lv_aload_n hx hb dX12_wind_138 rfl (lv_at hl 1 rfl) ?_
                refine gf_12_1 C hw tM_0 kw_1019 dX12_wind_139 ?_
                refine lv_iload hx hb dX12_wind_142 (lv_at hl 0 rfl) ?_
                refine lv_iconst (v := 4) hx hb dX12_wind_144 (by decide) ?_
                refine lv_iadd hx hb dX12_wind_145 ?_
                refine lv_iload hx hb dX12_wind_146 (lv_at hl 7 rfl) ?_
                obtain ⟨g_36, h⟩ := gd_at h
                obtain ⟨σ_35, eσ_35, h⟩ := lt_at h
                refine q_iast C hw tM_1 g_36 eσ_35 dX12_wind_148 (fun H locs hw => ?_)
                refine lv_aload_n hx hb dX12_wind_149 rfl (lv_at hl 1 rfl) ?_
                refine gf_12_1 C hw tM_0 kw_1019 dX12_wind_150 ?_
                refine lv_iload hx hb dX12_wind_153 (lv_at hl 0 rfl) ?_
                refine lv_iconst (v := 5) hx hb dX12_wind_155 (by decide) ?_
                refine lv_iadd hx hb dX12_wind_156 ?_
                refine lv_sipush (v := 1000) hx hb dX12_wind_157 (by decide) ?_
                refine lv_iload_n hx hb dX12_wind_160 rfl (lv_at hl 3 rfl) ?_
                refine lv_isub hx hb dX12_wind_161 ?_
                refine lv_iload_n hx hb dX12_wind_162 rfl (lv_at hl 4 rfl) ?_
                refine lv_isub hx hb dX12_wind_163 ?_
                refine lv_iload hx hb dX12_wind_164 (lv_at hl 5 rfl) ?_
                refine lv_isub hx hb dX12_wind_166 ?_
                refine lv_iload hx hb dX12_wind_167 (lv_at hl 6 rfl) ?_
                refine lv_isub hx hb dX12_wind_169 ?_
                refine lv_iload hx hb dX12_wind_170 (lv_at hl 7 rfl) ?_
                refine lv_isub hx hb dX12_wind_172 ?_
                obtain ⟨g_38, h⟩ := gd_at h
                obtain ⟨σ_37, eσ_37, h⟩ := lt_at h
                refine q_iast C hw tM_1 g_38 eσ_37 dX12_wind_173 (fun H locs hw => ?_)
                refine lv_iconst (v := 1) hx hb dX12_wind_174 (by decide) ?_
                obtain ⟨rfl, rfl⟩ := ret_at h
                exact q_iret C hw dX12_wind_175
              · replace h := ie_at h c_25
                refine lv_bipush (v := (-2)) hx hb dX12_wind_85 (by decide) ?_
                obtain ⟨rfl, rfl⟩ := ret_at h
                exact q_iret C hw dX12_wind_87
  · replace h := it_at h c_4
    refine lv_iconst (v := (-1)) hx hb dX12_wind_7 (by decide) ?_
    obtain ⟨rfl, rfl⟩ := ret_at h
    exact q_iret C hw dX12_wind_8
