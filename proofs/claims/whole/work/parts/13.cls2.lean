def f_X11_within (p0 : Int32) (p1 : Int32) (p2 : Int32) (σ : Mem) : Option (Int32 × Mem) :=
  if p0 < p1 then
    (some ((0 : Int32), σ))
  else
    if p2 < p0 then
      (some ((0 : Int32), σ))
    else
      some ((1 : Int32), σ)
set_option maxHeartbeats 4000000 in
set_option maxRecDepth 100000 in
theorem m_X11_within (l : Launch) (E : EV) (p0 : Int32) (p1 : Int32) (p2 : Int32) (σ : Mem) (rr : Int32) (τ : Mem) (h : f_X11_within p0 p1 p2 σ = some (rr, τ)) : MI TC l E yX11_within cX11_within 3 (some .boolean) 0 0 [.int p0, .int p1, .int p2] σ rr τ := by
  refine mt_start RX11 (by decide +kernel) rfl (Nat.le_of_ble_eq_true rfl) (fun p e s m args below meth c ls C hw hl => ?_)
  replace hl : lv_has ls 3 [(0, .int p0), (1, .int p1), (2, .int p2)] := hl
  obtain ⟨hx, hb, hml, hown, hts, hK, hSt, hlk, hr⟩ := id C
  unfold f_X11_within at h
  refine lv_iload_n hx hb dX11_within_0 rfl (lv_at hl 0 rfl) ?_
  refine lv_iload_n hx hb dX11_within_1 rfl (lv_at hl 1 rfl) ?_
  refine lv_icmp_lt (tgt := 14) hx hb dX11_within_2 (by decide) (fun c_1 => ?_) (fun c_1 => ?_)
  · replace h := it_at h c_1
    refine lv_iconst (v := 0) hx hb dX11_within_14 (by decide) ?_
    obtain ⟨rfl, rfl⟩ := ret_at h
    exact q_zret C (by decide) hw dX11_within_15
  · replace h := ie_at h c_1
    refine lv_iload_n hx hb dX11_within_5 rfl (lv_at hl 0 rfl) ?_
    refine lv_iload_n hx hb dX11_within_6 rfl (lv_at hl 2 rfl) ?_
    refine lv_icmp_gt (tgt := 14) hx hb dX11_within_7 (by decide) (fun c_2 => ?_) (fun c_2 => ?_)
    · replace h := it_at h c_2
      refine lv_iconst (v := 0) hx hb dX11_within_14 (by decide) ?_
      obtain ⟨rfl, rfl⟩ := ret_at h
      exact q_zret C (by decide) hw dX11_within_15
    · replace h := ie_at h c_2
      refine lv_iconst (v := 1) hx hb dX11_within_10 (by decide) ?_
      refine lv_goto (tgt := 15) hx hb dX11_within_11 (by decide) ?_
      obtain ⟨rfl, rfl⟩ := ret_at h
      exact q_zret C (by decide) hw dX11_within_15
def f_X11_isRule (p1 : Int32) (σ : Mem) : Option (Int32 × Mem) :=
  bd (f_X11_within p1 (0 : Int32) ((gI σ 8 4) - (1 : Int32)) σ) fun r_1 σ_2 =>
  gd (iz r_1) (some (r_1, σ_2))
set_option maxHeartbeats 4000000 in
set_option maxRecDepth 100000 in
theorem m_X11_isRule (l : Launch) (E : EV) (p1 : Int32) (σ : Mem) (rr : Int32) (τ : Mem) (h : f_X11_isRule p1 σ = some (rr, τ)) : MI TC l E yX11_isRule cX11_isRule 2 (some .boolean) 1 22 [.ref (E.2.1 (0)), .int p1] σ rr τ := by
  refine mt_start RX11 (by decide +kernel) rfl (Nat.le_of_ble_eq_true rfl) (fun p e s m args below meth c ls C hw hl => ?_)
  replace hl : lv_has ls 2 [(0, .ref (E.2.1 (0))), (1, .int p1)] := hl
  obtain ⟨hx, hb, hml, hown, hts, hK, hSt, hlk, hr⟩ := id C
  unfold f_X11_isRule at h
  refine lv_iload_n hx hb dX11_isRule_0 rfl (lv_at hl 1 rfl) ?_
  refine lv_iconst (v := 0) hx hb dX11_isRule_1 (by decide) ?_
  refine lv_aload_n hx hb dX11_isRule_2 rfl (lv_at hl 0 rfl) ?_
  refine gf_11_1 C hw tC_0 kw_402 dX11_isRule_3 ?_
  refine gf_8_4 C hw tC_2 kw_250 (c1 := 8) rfl dX11_isRule_6 ?_
  refine gf_7_4 C hw tC_8 kw_189 dX11_isRule_9 ?_
  refine lv_iconst (v := 1) hx hb dX11_isRule_12 (by decide) ?_
  refine lv_isub hx hb dX11_isRule_13 ?_
  obtain ⟨r_1, σ_2, h_3, h⟩ := bd_at h
  refine q_afterI hw (q_runS C hw hl.1 (As := [.int p1, .int (0 : Int32), .int ((gI σ 8 4) - (1 : Int32))]) (rest := []) (m_X11_within l E p1 (0 : Int32) ((gI σ 8 4) - (1 : Int32)) σ r_1 σ_2 h_3) yq_X11_within kw_427 ⟨Nat.le_of_ble_eq_true rfl, Nat.le_of_ble_eq_true rfl⟩ rfl (Nat.le_of_ble_eq_true rfl) ⟨Nat.zero_le _, Nat.zero_le _⟩ dX11_isRule_14) (fun H locs hw => ?_)
  obtain ⟨g_4, h⟩ := gd_at h
  obtain ⟨rfl, rfl⟩ := ret_at h
  exact q_zret C g_4 hw dX11_isRule_17
def f_X11_act (p1 : Int32) (p2 : Int32) (p3 : Int32) (σ : Mem) : Option (Int32 × Mem) :=
  bv (f_X0_clear σ) fun σ_2 =>
  bd (f_X11_isRule p1 σ_2) fun r_4 σ_5 =>
  if r_4 = 0 then
    (some ((0 : Int32), σ_5))
  else
    bd (f_X11_within p2 (0 : Int32) (2 : Int32) σ_5) fun r_8 σ_9 =>
    if r_8 = 0 then
      (some ((0 : Int32), σ_9))
    else
      bd (f_X0_begin p1 p2 p3 σ_9) fun r_12 σ_13 =>
      some (r_12, σ_13)
set_option maxHeartbeats 4000000 in
set_option maxRecDepth 100000 in
theorem m_X11_act (l : Launch) (E : EV) (p1 : Int32) (p2 : Int32) (p3 : Int32) (σ : Mem) (rr : Int32) (τ : Mem) (h : f_X11_act p1 p2 p3 σ = some (rr, τ)) : MI TC l E yX11_act cX11_act 4 (some .int) 74 2050 [.ref (E.2.1 (0)), .int p1, .int p2, .int p3] σ rr τ := by
  refine mt_start RX11 (by decide +kernel) rfl (Nat.le_of_ble_eq_true rfl) (fun p e s m args below meth c ls C hw hl => ?_)
  replace hl : lv_has ls 4 [(0, .ref (E.2.1 (0))), (1, .int p1), (2, .int p2), (3, .int p3)] := hl
  obtain ⟨hx, hb, hml, hown, hts, hK, hSt, hlk, hr⟩ := id C
  unfold f_X11_act at h
  refine lv_aload_n hx hb dX11_act_0 rfl (lv_at hl 0 rfl) ?_
  refine gf_11_5 C hw tC_0 kw_406 dX11_act_1 ?_
  obtain ⟨σ_2, h_3, h⟩ := bv_at h
  refine q_afterV hw (q_runV C hw hl.1 (As := []) (rest := []) (m_X0_clear l E  σ σ_2 h_3) yq_X0_clear tC_46 rfl rfl kw_923 ⟨Nat.le_of_ble_eq_true rfl, Nat.le_of_ble_eq_true rfl⟩ rfl (Nat.le_of_ble_eq_true rfl) ⟨Nat.zero_le _, Nat.zero_le _⟩ dX11_act_4) (fun H locs hw => ?_)
  refine lv_aload_n hx hb dX11_act_7 rfl (lv_at hl 0 rfl) ?_
  refine lv_iload_n hx hb dX11_act_8 rfl (lv_at hl 1 rfl) ?_
  obtain ⟨r_4, σ_5, h_6, h⟩ := bd_at h
  refine q_afterI hw (q_runV C hw hl.1 (As := [.int p1]) (rest := []) (m_X11_isRule l E p1 σ_2 r_4 σ_5 h_6) yq_X11_isRule tC_0 rfl rfl kw_729 ⟨Nat.le_of_ble_eq_true rfl, Nat.le_of_ble_eq_true rfl⟩ rfl (Nat.le_of_ble_eq_true rfl) ⟨Nat.zero_le _, Nat.zero_le _⟩ dX11_act_9) (fun H locs hw => ?_)
  refine lv_if_eq (tgt := 24) hx hb dX11_act_12 (by decide) (fun c_7 => ?_) (fun c_7 => ?_)
  · replace h := it_at h c_7
    refine lv_iconst (v := 0) hx hb dX11_act_24 (by decide) ?_
    obtain ⟨rfl, rfl⟩ := ret_at h
    exact q_iret C hw dX11_act_25
  · replace h := ie_at h c_7
    refine lv_iload_n hx hb dX11_act_15 rfl (lv_at hl 2 rfl) ?_
    refine lv_iconst (v := 0) hx hb dX11_act_16 (by decide) ?_
    refine lv_iconst (v := 2) hx hb dX11_act_17 (by decide) ?_
    obtain ⟨r_8, σ_9, h_10, h⟩ := bd_at h
    refine q_afterI hw (q_runS C hw hl.1 (As := [.int p2, .int (0 : Int32), .int (2 : Int32)]) (rest := []) (m_X11_within l E p2 (0 : Int32) (2 : Int32) σ_5 r_8 σ_9 h_10) yq_X11_within kw_427 ⟨Nat.le_of_ble_eq_true rfl, Nat.le_of_ble_eq_true rfl⟩ rfl (Nat.le_of_ble_eq_true rfl) ⟨Nat.zero_le _, Nat.zero_le _⟩ dX11_act_18) (fun H locs hw => ?_)
    refine lv_if_ne (tgt := 26) hx hb dX11_act_21 (by decide) (fun c_11 => ?_) (fun c_11 => ?_)
    · replace h := ie_at h c_11
      refine lv_aload_n hx hb dX11_act_26 rfl (lv_at hl 0 rfl) ?_
      refine gf_11_5 C hw tC_0 kw_406 dX11_act_27 ?_
      refine lv_aload_n hx hb dX11_act_30 rfl (lv_at hl 0 rfl) ?_
      refine gf_11_1 C hw tC_0 kw_402 dX11_act_31 ?_
      refine gf_8_4 C hw tC_2 kw_250 (c1 := 8) rfl dX11_act_34 ?_
      refine lv_iload_n hx hb dX11_act_37 rfl (lv_at hl 1 rfl) ?_
      refine lv_iload_n hx hb dX11_act_38 rfl (lv_at hl 2 rfl) ?_
      refine lv_iload_n hx hb dX11_act_39 rfl (lv_at hl 3 rfl) ?_
      obtain ⟨r_12, σ_13, h_14, h⟩ := bd_at h
      refine q_afterI hw (q_runV C hw hl.1 (As := [.ref (E.2.1 (8)), .int p1, .int p2, .int p3]) (rest := []) (m_X0_begin l E p1 p2 p3 σ_9 r_12 σ_13 h_14) yq_X0_begin tC_46 rfl rfl kw_927 ⟨Nat.le_of_ble_eq_true rfl, Nat.le_of_ble_eq_true rfl⟩ rfl (Nat.le_of_ble_eq_true rfl) ⟨Nat.zero_le _, Nat.zero_le _⟩ dX11_act_40) (fun H locs hw => ?_)
      obtain ⟨rfl, rfl⟩ := ret_at h
      exact q_iret C hw dX11_act_43
    · replace h := it_at h c_11
      refine lv_iconst (v := 0) hx hb dX11_act_24 (by decide) ?_
      obtain ⟨rfl, rfl⟩ := ret_at h
      exact q_iret C hw dX11_act_25
def f_X11_as (p1 : Int32) (p2 : Int32) (σ : Mem) : Option (Int32 × Mem) :=
  bd (f_X11_isRule p1 σ) fun r_1 σ_2 =>
  if r_1 = 0 then
    (some ((-1 : Int32), σ_2))
  else
    bd (f_X11_within p2 (0 : Int32) (6 : Int32) σ_2) fun r_5 σ_6 =>
    if r_5 = 0 then
      (some ((-1 : Int32), σ_6))
    else
      gd (ib p1 10) <|
      bd (f_X7_isUnder (gI σ_6 9 p1.toNatClampNeg) p2 σ_6) fun r_10 σ_11 =>
      if r_10 = 0 then
        (some ((-6 : Int32), σ_11))
      else
        gd (ib p1 10) <|
        some (gI σ_11 10 p1.toNatClampNeg, σ_11)
set_option maxHeartbeats 4000000 in
set_option maxRecDepth 100000 in
theorem m_X11_as (l : Launch) (E : EV) (p1 : Int32) (p2 : Int32) (σ : Mem) (rr : Int32) (τ : Mem) (h : f_X11_as p1 p2 σ = some (rr, τ)) : MI TC l E yX11_as cX11_as 3 (some .int) 2 43 [.ref (E.2.1 (0)), .int p1, .int p2] σ rr τ := by
  refine mt_start RX11 (by decide +kernel) rfl (Nat.le_of_ble_eq_true rfl) (fun p e s m args below meth c ls C hw hl => ?_)
  replace hl : lv_has ls 3 [(0, .ref (E.2.1 (0))), (1, .int p1), (2, .int p2)] := hl
  obtain ⟨hx, hb, hml, hown, hts, hK, hSt, hlk, hr⟩ := id C
  unfold f_X11_as at h
  refine lv_aload_n hx hb dX11_as_0 rfl (lv_at hl 0 rfl) ?_
  refine lv_iload_n hx hb dX11_as_1 rfl (lv_at hl 1 rfl) ?_
  obtain ⟨r_1, σ_2, h_3, h⟩ := bd_at h
  refine q_afterI hw (q_runV C hw hl.1 (As := [.int p1]) (rest := []) (m_X11_isRule l E p1 σ r_1 σ_2 h_3) yq_X11_isRule tC_0 rfl rfl kw_729 ⟨Nat.le_of_ble_eq_true rfl, Nat.le_of_ble_eq_true rfl⟩ rfl (Nat.le_of_ble_eq_true rfl) ⟨Nat.zero_le _, Nat.zero_le _⟩ dX11_as_2) (fun H locs hw => ?_)
  refine lv_if_eq (tgt := 18) hx hb dX11_as_5 (by decide) (fun c_4 => ?_) (fun c_4 => ?_)
  · replace h := it_at h c_4
    refine lv_iconst (v := (-1)) hx hb dX11_as_18 (by decide) ?_
    obtain ⟨rfl, rfl⟩ := ret_at h
    exact q_iret C hw dX11_as_19
  · replace h := ie_at h c_4
    refine lv_iload_n hx hb dX11_as_8 rfl (lv_at hl 2 rfl) ?_
    refine lv_iconst (v := 0) hx hb dX11_as_9 (by decide) ?_
    refine lv_bipush (v := 6) hx hb dX11_as_10 (by decide) ?_
    obtain ⟨r_5, σ_6, h_7, h⟩ := bd_at h
    refine q_afterI hw (q_runS C hw hl.1 (As := [.int p2, .int (0 : Int32), .int (6 : Int32)]) (rest := []) (m_X11_within l E p2 (0 : Int32) (6 : Int32) σ_2 r_5 σ_6 h_7) yq_X11_within kw_427 ⟨Nat.le_of_ble_eq_true rfl, Nat.le_of_ble_eq_true rfl⟩ rfl (Nat.le_of_ble_eq_true rfl) ⟨Nat.zero_le _, Nat.zero_le _⟩ dX11_as_12) (fun H locs hw => ?_)
    refine lv_if_ne (tgt := 20) hx hb dX11_as_15 (by decide) (fun c_8 => ?_) (fun c_8 => ?_)
    · replace h := ie_at h c_8
      refine lv_aload_n hx hb dX11_as_20 rfl (lv_at hl 0 rfl) ?_
      refine gf_11_1 C hw tC_0 kw_402 dX11_as_21 ?_
      refine gf_8_4 C hw tC_2 kw_250 (c1 := 8) rfl dX11_as_24 ?_
      refine gf_7_0 C hw tC_8 kw_180 (c1 := 9) rfl dX11_as_27 ?_
      refine lv_iload_n hx hb dX11_as_30 rfl (lv_at hl 1 rfl) ?_
      obtain ⟨g_9, h⟩ := gd_at h
      refine q_iald C hw tC_9 g_9 dX11_as_31 ?_
      refine lv_iload_n hx hb dX11_as_32 rfl (lv_at hl 2 rfl) ?_
      obtain ⟨r_10, σ_11, h_12, h⟩ := bd_at h
      refine q_afterI hw (q_runS C hw hl.1 (As := [.int (gI σ_6 9 p1.toNatClampNeg), .int p2]) (rest := []) (m_X7_isUnder l E (gI σ_6 9 p1.toNatClampNeg) p2 σ_6 r_10 σ_11 h_12) yq_X7_isUnder kw_962 ⟨Nat.le_of_ble_eq_true rfl, Nat.le_of_ble_eq_true rfl⟩ rfl (Nat.le_of_ble_eq_true rfl) ⟨Nat.zero_le _, Nat.zero_le _⟩ dX11_as_33) (fun H locs hw => ?_)
      refine lv_if_eq (tgt := 54) hx hb dX11_as_36 (by decide) (fun c_13 => ?_) (fun c_13 => ?_)
      · replace h := it_at h c_13
        refine lv_bipush (v := (-6)) hx hb dX11_as_54 (by decide) ?_
        obtain ⟨rfl, rfl⟩ := ret_at h
        exact q_iret C hw dX11_as_56
      · replace h := ie_at h c_13
        refine lv_aload_n hx hb dX11_as_39 rfl (lv_at hl 0 rfl) ?_
        refine gf_11_1 C hw tC_0 kw_402 dX11_as_40 ?_
        refine gf_8_4 C hw tC_2 kw_250 (c1 := 8) rfl dX11_as_43 ?_
        refine gf_7_1 C hw tC_8 kw_184 (c1 := 10) rfl dX11_as_46 ?_
        refine lv_iload_n hx hb dX11_as_49 rfl (lv_at hl 1 rfl) ?_
        obtain ⟨g_14, h⟩ := gd_at h
        refine q_iald C hw tC_10 g_14 dX11_as_50 ?_
        refine lv_goto (tgt := 56) hx hb dX11_as_51 (by decide) ?_
        obtain ⟨rfl, rfl⟩ := ret_at h
        exact q_iret C hw dX11_as_56
    · replace h := it_at h c_8
      refine lv_iconst (v := (-1)) hx hb dX11_as_18 (by decide) ?_
      obtain ⟨rfl, rfl⟩ := ret_at h
      exact q_iret C hw dX11_as_19
def f_X11_isWind (p0 : Int32) (σ : Mem) : Option (Int32 × Mem) :=
  bd (f_X11_within p0 (0 : Int32) (5 : Int32) σ) fun r_1 σ_2 =>
  gd (iz r_1) (some (r_1, σ_2))
set_option maxHeartbeats 4000000 in
set_option maxRecDepth 100000 in
theorem m_X11_isWind (l : Launch) (E : EV) (p0 : Int32) (σ : Mem) (rr : Int32) (τ : Mem) (h : f_X11_isWind p0 σ = some (rr, τ)) : MI TC l E yX11_isWind cX11_isWind 1 (some .boolean) 1 22 [.int p0] σ rr τ := by
  refine mt_start RX11 (by decide +kernel) rfl (Nat.le_of_ble_eq_true rfl) (fun p e s m args below meth c ls C hw hl => ?_)
  replace hl : lv_has ls 1 [(0, .int p0)] := hl
  obtain ⟨hx, hb, hml, hown, hts, hK, hSt, hlk, hr⟩ := id C
  unfold f_X11_isWind at h
  refine lv_iload_n hx hb dX11_isWind_0 rfl (lv_at hl 0 rfl) ?_
  refine lv_iconst (v := 0) hx hb dX11_isWind_1 (by decide) ?_
  refine lv_iconst (v := 5) hx hb dX11_isWind_2 (by decide) ?_
  obtain ⟨r_1, σ_2, h_3, h⟩ := bd_at h
  refine q_afterI hw (q_runS C hw hl.1 (As := [.int p0, .int (0 : Int32), .int (5 : Int32)]) (rest := []) (m_X11_within l E p0 (0 : Int32) (5 : Int32) σ r_1 σ_2 h_3) yq_X11_within kw_427 ⟨Nat.le_of_ble_eq_true rfl, Nat.le_of_ble_eq_true rfl⟩ rfl (Nat.le_of_ble_eq_true rfl) ⟨Nat.zero_le _, Nat.zero_le _⟩ dX11_isWind_3) (fun H locs hw => ?_)
  obtain ⟨g_4, h⟩ := gd_at h
  obtain ⟨rfl, rfl⟩ := ret_at h
  exact q_zret C g_4 hw dX11_isWind_6
def f_X11_isMill (p1 : Int32) (σ : Mem) : Option (Int32 × Mem) :=
  bd (f_X11_within p1 (0 : Int32) ((gI σ 2 0) - (1 : Int32)) σ) fun r_1 σ_2 =>
  gd (iz r_1) (some (r_1, σ_2))
set_option maxHeartbeats 4000000 in
set_option maxRecDepth 100000 in
theorem m_X11_isMill (l : Launch) (E : EV) (p1 : Int32) (σ : Mem) (rr : Int32) (τ : Mem) (h : f_X11_isMill p1 σ = some (rr, τ)) : MI TC l E yX11_isMill cX11_isMill 2 (some .boolean) 1 22 [.ref (E.2.1 (0)), .int p1] σ rr τ := by
  refine mt_start RX11 (by decide +kernel) rfl (Nat.le_of_ble_eq_true rfl) (fun p e s m args below meth c ls C hw hl => ?_)
  replace hl : lv_has ls 2 [(0, .ref (E.2.1 (0))), (1, .int p1)] := hl
  obtain ⟨hx, hb, hml, hown, hts, hK, hSt, hlk, hr⟩ := id C
  unfold f_X11_isMill at h
  refine lv_iload_n hx hb dX11_isMill_0 rfl (lv_at hl 1 rfl) ?_
  refine lv_iconst (v := 0) hx hb dX11_isMill_1 (by decide) ?_
  refine lv_aload_n hx hb dX11_isMill_2 rfl (lv_at hl 0 rfl) ?_
  refine gf_11_1 C hw tC_0 kw_402 dX11_isMill_3 ?_
  refine gf_8_0 C hw tC_2 kw_242 dX11_isMill_6 ?_
  refine lv_iconst (v := 1) hx hb dX11_isMill_9 (by decide) ?_
  refine lv_isub hx hb dX11_isMill_10 ?_
  obtain ⟨r_1, σ_2, h_3, h⟩ := bd_at h
  refine q_afterI hw (q_runS C hw hl.1 (As := [.int p1, .int (0 : Int32), .int ((gI σ 2 0) - (1 : Int32))]) (rest := []) (m_X11_within l E p1 (0 : Int32) ((gI σ 2 0) - (1 : Int32)) σ r_1 σ_2 h_3) yq_X11_within kw_427 ⟨Nat.le_of_ble_eq_true rfl, Nat.le_of_ble_eq_true rfl⟩ rfl (Nat.le_of_ble_eq_true rfl) ⟨Nat.zero_le _, Nat.zero_le _⟩ dX11_isMill_11) (fun H locs hw => ?_)
  obtain ⟨g_4, h⟩ := gd_at h
  obtain ⟨rfl, rfl⟩ := ret_at h
  exact q_zret C g_4 hw dX11_isMill_14
def f_X11_isLed (σ : Mem) : Option (Int32 × Mem) :=
  bd (f_X11_isMill (gI σ 7 0) σ) fun r_1 σ_2 =>
  gd (iz r_1) (some (r_1, σ_2))
set_option maxHeartbeats 4000000 in
set_option maxRecDepth 100000 in
theorem m_X11_isLed (l : Launch) (E : EV) (σ : Mem) (rr : Int32) (τ : Mem) (h : f_X11_isLed  σ = some (rr, τ)) : MI TC l E yX11_isLed cX11_isLed 1 (some .boolean) 2 43 [.ref (E.2.1 (0))] σ rr τ := by
  refine mt_start RX11 (by decide +kernel) rfl (Nat.le_of_ble_eq_true rfl) (fun p e s m args below meth c ls C hw hl => ?_)
  replace hl : lv_has ls 1 [(0, .ref (E.2.1 (0)))] := hl
  obtain ⟨hx, hb, hml, hown, hts, hK, hSt, hlk, hr⟩ := id C
  unfold f_X11_isLed at h
  refine lv_aload_n hx hb dX11_isLed_0 rfl (lv_at hl 0 rfl) ?_
  refine lv_aload_n hx hb dX11_isLed_1 rfl (lv_at hl 0 rfl) ?_
  refine gf_11_1 C hw tC_0 kw_402 dX11_isLed_2 ?_
  refine gf_8_3 C hw tC_2 kw_248 (c1 := 7) rfl dX11_isLed_5 ?_
  refine gf_2_0 C hw tC_7 kw_147 dX11_isLed_8 ?_
  obtain ⟨r_1, σ_2, h_3, h⟩ := bd_at h
  refine q_afterI hw (q_runV C hw hl.1 (As := [.int (gI σ 7 0)]) (rest := []) (m_X11_isMill l E (gI σ 7 0) σ r_1 σ_2 h_3) yq_X11_isMill tC_0 rfl rfl kw_612 ⟨Nat.le_of_ble_eq_true rfl, Nat.le_of_ble_eq_true rfl⟩ rfl (Nat.le_of_ble_eq_true rfl) ⟨Nat.zero_le _, Nat.zero_le _⟩ dX11_isLed_11) (fun H locs hw => ?_)
  obtain ⟨g_4, h⟩ := gd_at h
  obtain ⟨rfl, rfl⟩ := ret_at h
  exact q_zret C g_4 hw dX11_isLed_14
def f_X11_best (p1 : Int32) (p2 : Int32) (p3 : Int32) (σ : Mem) : Option (Int64 × Mem) :=
  bd (f_X11_within p1 (1 : Int32) (6 : Int32) σ) fun r_1 σ_2 =>
  if r_1 = 0 then
    (some ((-9223372036854775808 : Int64), σ_2))
  else
    bd (f_X11_isWind p2 σ_2) fun r_5 σ_6 =>
    if r_5 = 0 then
      (some ((-9223372036854775808 : Int64), σ_6))
    else
      bd (f_X11_within p3 (0 : Int32) (2 : Int32) σ_6) fun r_9 σ_10 =>
      if r_9 = 0 then
        (some ((-9223372036854775808 : Int64), σ_10))
      else
        bd (f_X11_isLed σ_10) fun r_13 σ_14 =>
        if r_13 = 0 then
          (some ((-9223372036854775808 : Int64), σ_14))
        else
          if (gI σ_14 7 5) = 0 then
            (lt (gI σ_14 7 2) fun x4_18 =>
            lt (gI σ_14 7 3) fun x5_19 =>
            gd (ib (gI σ_14 7 0) 5) <|
            bv (f_X5_begin (mo (gI σ_14 7 0).toNatClampNeg) σ_14) fun σ_22 =>
            if p3 = (0 : Int32) then
              (bd (f_X5_bestSetting p1 p2 x4_18 x5_19 σ_22) fun r_25 σ_26 =>
              some (r_25.toInt64, σ_26))
            else
            if p3 = (1 : Int32) then
              (bd (f_X5_bestWorth p1 p2 x4_18 x5_19 σ_22) fun r_29 σ_30 =>
              some (r_29.toInt64, σ_30))
            else
            bd (f_X5_looking p1 p2 x4_18 x5_19 σ_22) fun r_32 σ_33 =>
            some (r_32.toInt64, σ_33))
          else
            some ((0 : Int64), σ_14)
set_option maxHeartbeats 4000000 in
set_option maxRecDepth 100000 in
theorem m_X11_best (l : Launch) (E : EV) (p1 : Int32) (p2 : Int32) (p3 : Int32) (σ : Mem) (rr : Int64) (τ : Mem) (h : f_X11_best p1 p2 p3 σ = some (rr, τ)) : ML TC l E yX11_best cX11_best 6 (some .long) 234 8965 [.ref (E.2.1 (0)), .int p1, .int p2, .int p3] σ rr τ := by
  refine mt_start RX11 (by decide +kernel) rfl (Nat.le_of_ble_eq_true rfl) (fun p e s m args below meth c ls C hw hl => ?_)
  replace hl : lv_has ls 6 [(0, .ref (E.2.1 (0))), (1, .int p1), (2, .int p2), (3, .int p3)] := hl
  obtain ⟨hx, hb, hml, hown, hts, hK, hSt, hlk, hr⟩ := id C
  unfold f_X11_best at h
  refine lv_iload_n hx hb dX11_best_0 rfl (lv_at hl 1 rfl) ?_
  refine lv_iconst (v := 1) hx hb dX11_best_1 (by decide) ?_
  refine lv_bipush (v := 6) hx hb dX11_best_2 (by decide) ?_
  obtain ⟨r_1, σ_2, h_3, h⟩ := bd_at h
  refine q_afterI hw (q_runS C hw hl.1 (As := [.int p1, .int (1 : Int32), .int (6 : Int32)]) (rest := []) (m_X11_within l E p1 (1 : Int32) (6 : Int32) σ r_1 σ_2 h_3) yq_X11_within kw_427 ⟨Nat.le_of_ble_eq_true rfl, Nat.le_of_ble_eq_true rfl⟩ rfl (Nat.le_of_ble_eq_true rfl) ⟨Nat.zero_le _, Nat.zero_le _⟩ dX11_best_4) (fun H locs hw => ?_)
  refine lv_if_eq (tgt := 33) hx hb dX11_best_7 (by decide) (fun c_4 => ?_) (fun c_4 => ?_)
  · replace h := it_at h c_4
    refine lv_ldc2 hx hb hown (hts _ kw_790) dX11_best_33 ?_
    obtain ⟨rfl, rfl⟩ := ret_at h
    exact q_lret C hw dX11_best_36
  · replace h := ie_at h c_4
    refine lv_iload_n hx hb dX11_best_10 rfl (lv_at hl 2 rfl) ?_
    obtain ⟨r_5, σ_6, h_7, h⟩ := bd_at h
    refine q_afterI hw (q_runS C hw hl.1 (As := [.int p2]) (rest := []) (m_X11_isWind l E p2 σ_2 r_5 σ_6 h_7) yq_X11_isWind kw_616 ⟨Nat.le_of_ble_eq_true rfl, Nat.le_of_ble_eq_true rfl⟩ rfl (Nat.le_of_ble_eq_true rfl) ⟨Nat.zero_le _, Nat.zero_le _⟩ dX11_best_11) (fun H locs hw => ?_)
    refine lv_if_eq (tgt := 33) hx hb dX11_best_14 (by decide) (fun c_8 => ?_) (fun c_8 => ?_)
    · replace h := it_at h c_8
      refine lv_ldc2 hx hb hown (hts _ kw_790) dX11_best_33 ?_
      obtain ⟨rfl, rfl⟩ := ret_at h
      exact q_lret C hw dX11_best_36
    · replace h := ie_at h c_8
      refine lv_iload_n hx hb dX11_best_17 rfl (lv_at hl 3 rfl) ?_
      refine lv_iconst (v := 0) hx hb dX11_best_18 (by decide) ?_
      refine lv_iconst (v := 2) hx hb dX11_best_19 (by decide) ?_
      obtain ⟨r_9, σ_10, h_11, h⟩ := bd_at h
      refine q_afterI hw (q_runS C hw hl.1 (As := [.int p3, .int (0 : Int32), .int (2 : Int32)]) (rest := []) (m_X11_within l E p3 (0 : Int32) (2 : Int32) σ_6 r_9 σ_10 h_11) yq_X11_within kw_427 ⟨Nat.le_of_ble_eq_true rfl, Nat.le_of_ble_eq_true rfl⟩ rfl (Nat.le_of_ble_eq_true rfl) ⟨Nat.zero_le _, Nat.zero_le _⟩ dX11_best_20) (fun H locs hw => ?_)
      refine lv_if_eq (tgt := 33) hx hb dX11_best_23 (by decide) (fun c_12 => ?_) (fun c_12 => ?_)
      · replace h := it_at h c_12
        refine lv_ldc2 hx hb hown (hts _ kw_790) dX11_best_33 ?_
        obtain ⟨rfl, rfl⟩ := ret_at h
        exact q_lret C hw dX11_best_36
      · replace h := ie_at h c_12
        refine lv_aload_n hx hb dX11_best_26 rfl (lv_at hl 0 rfl) ?_
        obtain ⟨r_13, σ_14, h_15, h⟩ := bd_at h
        refine q_afterI hw (q_runV C hw hl.1 (As := []) (rest := []) (m_X11_isLed l E  σ_10 r_13 σ_14 h_15) yq_X11_isLed tC_0 rfl rfl kw_699 ⟨Nat.le_of_ble_eq_true rfl, Nat.le_of_ble_eq_true rfl⟩ rfl (Nat.le_of_ble_eq_true rfl) ⟨Nat.zero_le _, Nat.zero_le _⟩ dX11_best_27) (fun H locs hw => ?_)
        refine lv_if_ne (tgt := 37) hx hb dX11_best_30 (by decide) (fun c_16 => ?_) (fun c_16 => ?_)
        · replace h := ie_at h c_16
          refine lv_aload_n hx hb dX11_best_37 rfl (lv_at hl 0 rfl) ?_
          refine gf_11_1 C hw tC_0 kw_402 dX11_best_38 ?_
          refine gf_8_3 C hw tC_2 kw_248 (c1 := 7) rfl dX11_best_41 ?_
          refine gf_2_5 C hw tC_7 kw_157 dX11_best_44 ?_
          refine lv_if_eq (tgt := 52) hx hb dX11_best_47 (by decide) (fun c_17 => ?_) (fun c_17 => ?_)
          · replace h := it_at h c_17
            refine lv_aload_n hx hb dX11_best_52 rfl (lv_at hl 0 rfl) ?_
            refine gf_11_1 C hw tC_0 kw_402 dX11_best_53 ?_
            refine gf_8_3 C hw tC_2 kw_248 (c1 := 7) rfl dX11_best_56 ?_
            refine gf_2_2 C hw tC_7 kw_151 dX11_best_59 ?_
            obtain ⟨x4_18, ex4_18, h⟩ := lt_at h
            refine q_top ex4_18 ?_
            refine lv_istore (lv' := [(4, .int x4_18), (0, .ref (E.2.1 (0))), (1, .int p1), (2, .int p2), (3, .int p3)]) hx hb dX11_best_62 hl (by decide) rfl (fun ls hl => ?_)
            refine lv_aload_n hx hb dX11_best_64 rfl (lv_at hl 1 rfl) ?_
            refine gf_11_1 C hw tC_0 kw_402 dX11_best_65 ?_
            refine gf_8_3 C hw tC_2 kw_248 (c1 := 7) rfl dX11_best_68 ?_
            refine gf_2_3 C hw tC_7 kw_153 dX11_best_71 ?_
            obtain ⟨x5_19, ex5_19, h⟩ := lt_at h
            refine q_top ex5_19 ?_
            refine lv_istore (lv' := [(5, .int x5_19), (4, .int x4_18), (0, .ref (E.2.1 (0))), (1, .int p1), (2, .int p2), (3, .int p3)]) hx hb dX11_best_74 hl (by decide) rfl (fun ls hl => ?_)
            refine lv_aload_n hx hb dX11_best_76 rfl (lv_at hl 2 rfl) ?_
            refine gf_11_4 C hw tC_0 kw_405 dX11_best_77 ?_
            refine lv_aload_n hx hb dX11_best_80 rfl (lv_at hl 2 rfl) ?_
            refine gf_11_0 C hw tC_0 kw_401 dX11_best_81 ?_
            refine lv_aload_n hx hb dX11_best_84 rfl (lv_at hl 2 rfl) ?_
            refine gf_11_1 C hw tC_0 kw_402 dX11_best_85 ?_
            refine gf_8_3 C hw tC_2 kw_248 (c1 := 7) rfl dX11_best_88 ?_
            refine gf_2_0 C hw tC_7 kw_147 dX11_best_91 ?_
            obtain ⟨g_20, h⟩ := gd_at h
            refine q_aald C hw g_20 dX11_best_94 ?_
            refine lv_aload_n hx hb dX11_best_95 rfl (lv_at hl 2 rfl) ?_
            refine gf_11_1 C hw tC_0 kw_402 dX11_best_96 ?_
            refine gf_8_2 C hw tC_2 kw_246 (c1 := 5) rfl dX11_best_99 ?_
            obtain ⟨σ_22, h_23, h⟩ := bv_at h
            refine q_afterV hw (q_runV C hw hl.1 (As := [.ref (E.2.1 (mo (gI σ_14 7 0).toNatClampNeg)), .ref (E.2.1 (5))]) (rest := []) (m_X5_begin l E (mo (gI σ_14 7 0).toNatClampNeg) (MO.of_ib g_20) σ_14 σ_22 h_23) yq_X5_begin tC_41 rfl rfl kw_741 ⟨Nat.le_of_ble_eq_true rfl, Nat.le_of_ble_eq_true rfl⟩ rfl (Nat.le_of_ble_eq_true rfl) ⟨Nat.zero_le _, Nat.zero_le _⟩ dX11_best_102) (fun H locs hw => ?_)
            refine lv_iload_n hx hb dX11_best_105 rfl (lv_at hl 5 rfl) ?_
            by_cases c_24 : p3 = (0 : Int32)
            · replace h := it_at h c_24
              refine lv_lookup (off := 26) (tgt := 132) hx hb dX11_best_106 (by decide) (by rw [c_24]; decide) (by decide) ?_
              refine lv_aload_n hx hb dX11_best_132 rfl (lv_at hl 2 rfl) ?_
              refine gf_11_4 C hw tC_0 kw_405 dX11_best_133 ?_
              refine lv_iload_n hx hb dX11_best_136 rfl (lv_at hl 3 rfl) ?_
              refine lv_iload_n hx hb dX11_best_137 rfl (lv_at hl 4 rfl) ?_
              refine lv_iload hx hb dX11_best_138 (lv_at hl 1 rfl) ?_
              refine lv_iload hx hb dX11_best_140 (lv_at hl 0 rfl) ?_
              obtain ⟨r_25, σ_26, h_27, h⟩ := bd_at h
              refine q_afterI hw (q_runV C hw hl.1 (As := [.int p1, .int p2, .int x4_18, .int x5_19]) (rest := []) (m_X5_bestSetting l E p1 p2 x4_18 x5_19 σ_22 r_25 σ_26 h_27) yq_X5_bestSetting tC_41 rfl rfl kw_817 ⟨Nat.le_of_ble_eq_true rfl, Nat.le_of_ble_eq_true rfl⟩ rfl (Nat.le_of_ble_eq_true rfl) ⟨Nat.zero_le _, Nat.zero_le _⟩ dX11_best_142) (fun H locs hw => ?_)
              refine lv_i2l hx hb dX11_best_145 rfl ?_
              obtain ⟨rfl, rfl⟩ := ret_at h
              exact q_lret C hw dX11_best_146
            replace h := ie_at h c_24
            by_cases c_28 : p3 = (1 : Int32)
            · replace h := it_at h c_28
              refine lv_lookup (off := 41) (tgt := 147) hx hb dX11_best_106 (by decide) (by rw [c_28]; decide) (by decide) ?_
              refine lv_aload_n hx hb dX11_best_147 rfl (lv_at hl 2 rfl) ?_
              refine gf_11_4 C hw tC_0 kw_405 dX11_best_148 ?_
              refine lv_iload_n hx hb dX11_best_151 rfl (lv_at hl 3 rfl) ?_
              refine lv_iload_n hx hb dX11_best_152 rfl (lv_at hl 4 rfl) ?_
              refine lv_iload hx hb dX11_best_153 (lv_at hl 1 rfl) ?_
              refine lv_iload hx hb dX11_best_155 (lv_at hl 0 rfl) ?_
              obtain ⟨r_29, σ_30, h_31, h⟩ := bd_at h
              refine q_afterI hw (q_runV C hw hl.1 (As := [.int p1, .int p2, .int x4_18, .int x5_19]) (rest := []) (m_X5_bestWorth l E p1 p2 x4_18 x5_19 σ_22 r_29 σ_30 h_31) yq_X5_bestWorth tC_41 rfl rfl kw_821 ⟨Nat.le_of_ble_eq_true rfl, Nat.le_of_ble_eq_true rfl⟩ rfl (Nat.le_of_ble_eq_true rfl) ⟨Nat.zero_le _, Nat.zero_le _⟩ dX11_best_157) (fun H locs hw => ?_)
              refine lv_i2l hx hb dX11_best_160 rfl ?_
              obtain ⟨rfl, rfl⟩ := ret_at h
              exact q_lret C hw dX11_best_161
            replace h := ie_at h c_28
            have nc_24 : ¬ (0 : Int) = (p3).toInt := fun q => c_24 (lk_eq q)
            have nc_28 : ¬ (1 : Int) = (p3).toInt := fun q => c_28 (lk_eq q)
            refine lv_lookup (off := 56) (tgt := 162) hx hb dX11_best_106 (by decide) (by simp only [List.toList_toArray, Op.lookupswitch.offset_cons, Op.lookupswitch.offset_nil, if_neg nc_24, if_neg nc_28]) (by decide) ?_
            refine lv_aload_n hx hb dX11_best_162 rfl (lv_at hl 2 rfl) ?_
            refine gf_11_4 C hw tC_0 kw_405 dX11_best_163 ?_
            refine lv_iload_n hx hb dX11_best_166 rfl (lv_at hl 3 rfl) ?_
            refine lv_iload_n hx hb dX11_best_167 rfl (lv_at hl 4 rfl) ?_
            refine lv_iload hx hb dX11_best_168 (lv_at hl 1 rfl) ?_
            refine lv_iload hx hb dX11_best_170 (lv_at hl 0 rfl) ?_
            obtain ⟨r_32, σ_33, h_34, h⟩ := bd_at h
            refine q_afterI hw (q_runV C hw hl.1 (As := [.int p1, .int p2, .int x4_18, .int x5_19]) (rest := []) (m_X5_looking l E p1 p2 x4_18 x5_19 σ_22 r_32 σ_33 h_34) yq_X5_looking tC_41 rfl rfl kw_825 ⟨Nat.le_of_ble_eq_true rfl, Nat.le_of_ble_eq_true rfl⟩ rfl (Nat.le_of_ble_eq_true rfl) ⟨Nat.zero_le _, Nat.zero_le _⟩ dX11_best_172) (fun H locs hw => ?_)
            refine lv_i2l hx hb dX11_best_175 rfl ?_
            obtain ⟨rfl, rfl⟩ := ret_at h
            exact q_lret C hw dX11_best_176
          · replace h := ie_at h c_17
            refine lv_lconst (v := 0) hx hb dX11_best_50 (by decide) ?_
            obtain ⟨rfl, rfl⟩ := ret_at h
            exact q_lret C hw dX11_best_51
        · replace h := it_at h c_16
          refine lv_ldc2 hx hb hown (hts _ kw_790) dX11_best_33 ?_
          obtain ⟨rfl, rfl⟩ := ret_at h
          exact q_lret C hw dX11_best_36
def f_X11_chance (p1 : Int32) (p2 : Int32) (σ : Mem) : Option (Int32 × Mem) :=
  bd (f_X11_isWind p1 σ) fun r_1 σ_2 =>
  if r_1 = 0 then
    (some ((-1 : Int32), σ_2))
  else
    bd (f_X11_isWind p2 σ_2) fun r_5 σ_6 =>
    if r_5 = 0 then
      (some ((-1 : Int32), σ_6))
    else
      bd (f_X10_chanceOf p1 p2 σ_6) fun r_9 σ_10 =>
      some (r_9, σ_10)
set_option maxHeartbeats 4000000 in
set_option maxRecDepth 100000 in
theorem m_X11_chance (l : Launch) (E : EV) (p1 : Int32) (p2 : Int32) (σ : Mem) (rr : Int32) (τ : Mem) (h : f_X11_chance p1 p2 σ = some (rr, τ)) : MI TC l E yX11_chance cX11_chance 3 (some .int) 2 42 [.ref (E.2.1 (0)), .int p1, .int p2] σ rr τ := by
  refine mt_start RX11 (by decide +kernel) rfl (Nat.le_of_ble_eq_true rfl) (fun p e s m args below meth c ls C hw hl => ?_)
  replace hl : lv_has ls 3 [(0, .ref (E.2.1 (0))), (1, .int p1), (2, .int p2)] := hl
  obtain ⟨hx, hb, hml, hown, hts, hK, hSt, hlk, hr⟩ := id C
  unfold f_X11_chance at h
  refine lv_iload_n hx hb dX11_chance_0 rfl (lv_at hl 1 rfl) ?_
  obtain ⟨r_1, σ_2, h_3, h⟩ := bd_at h
  refine q_afterI hw (q_runS C hw hl.1 (As := [.int p1]) (rest := []) (m_X11_isWind l E p1 σ r_1 σ_2 h_3) yq_X11_isWind kw_616 ⟨Nat.le_of_ble_eq_true rfl, Nat.le_of_ble_eq_true rfl⟩ rfl (Nat.le_of_ble_eq_true rfl) ⟨Nat.zero_le _, Nat.zero_le _⟩ dX11_chance_1) (fun H locs hw => ?_)
  refine lv_if_eq (tgt := 29) hx hb dX11_chance_4 (by decide) (fun c_4 => ?_) (fun c_4 => ?_)
  · replace h := it_at h c_4
    refine lv_iconst (v := (-1)) hx hb dX11_chance_29 (by decide) ?_
    obtain ⟨rfl, rfl⟩ := ret_at h
    exact q_iret C hw dX11_chance_30
  · replace h := ie_at h c_4
    refine lv_iload_n hx hb dX11_chance_7 rfl (lv_at hl 2 rfl) ?_
    obtain ⟨r_5, σ_6, h_7, h⟩ := bd_at h
    refine q_afterI hw (q_runS C hw hl.1 (As := [.int p2]) (rest := []) (m_X11_isWind l E p2 σ_2 r_5 σ_6 h_7) yq_X11_isWind kw_616 ⟨Nat.le_of_ble_eq_true rfl, Nat.le_of_ble_eq_true rfl⟩ rfl (Nat.le_of_ble_eq_true rfl) ⟨Nat.zero_le _, Nat.zero_le _⟩ dX11_chance_8) (fun H locs hw => ?_)
    refine lv_if_eq (tgt := 29) hx hb dX11_chance_11 (by decide) (fun c_8 => ?_) (fun c_8 => ?_)
    · replace h := it_at h c_8
      refine lv_iconst (v := (-1)) hx hb dX11_chance_29 (by decide) ?_
      obtain ⟨rfl, rfl⟩ := ret_at h
      exact q_iret C hw dX11_chance_30
    · replace h := ie_at h c_8
      refine lv_aload_n hx hb dX11_chance_14 rfl (lv_at hl 0 rfl) ?_
      refine gf_11_1 C hw tC_0 kw_402 dX11_chance_15 ?_
      refine gf_8_2 C hw tC_2 kw_246 (c1 := 5) rfl dX11_chance_18 ?_
      refine lv_iload_n hx hb dX11_chance_21 rfl (lv_at hl 1 rfl) ?_
      refine lv_iload_n hx hb dX11_chance_22 rfl (lv_at hl 2 rfl) ?_
      obtain ⟨r_9, σ_10, h_11, h⟩ := bd_at h
      refine q_afterI hw (q_runV C hw hl.1 (As := [.int p1, .int p2]) (rest := []) (m_X10_chanceOf l E p1 p2 σ_6 r_9 σ_10 h_11) yq_X10_chanceOf tC_5 rfl rfl kw_683 ⟨Nat.le_of_ble_eq_true rfl, Nat.le_of_ble_eq_true rfl⟩ rfl (Nat.le_of_ble_eq_true rfl) ⟨Nat.zero_le _, Nat.zero_le _⟩ dX11_chance_23) (fun H locs hw => ?_)
      refine lv_goto (tgt := 30) hx hb dX11_chance_26 (by decide) ?_
      obtain ⟨rfl, rfl⟩ := ret_at h
      exact q_iret C hw dX11_chance_30
def f_X11_count (p1 : Int32) (σ : Mem) : Option (Int32 × Mem) :=
  if p1 = (0 : Int32) then
    (some (gI σ 2 0, σ))
  else
  if p1 = (1 : Int32) then
    (some (gI σ 8 4, σ))
  else
  if p1 = (2 : Int32) then
    (some (gI σ 13 2, σ))
  else
  if p1 = (3 : Int32) then
    (some (gI σ 16 4, σ))
  else
  if p1 = (4 : Int32) then
    (some (gI σ 3 1, σ))
  else
  if p1 = (5 : Int32) then
    (some (gI σ 46 1, σ))
  else
  some ((-1 : Int32), σ)
set_option maxHeartbeats 4000000 in
set_option maxRecDepth 100000 in
theorem m_X11_count (l : Launch) (E : EV) (p1 : Int32) (σ : Mem) (rr : Int32) (τ : Mem) (h : f_X11_count p1 σ = some (rr, τ)) : MI TC l E yX11_count cX11_count 2 (some .int) 0 0 [.ref (E.2.1 (0)), .int p1] σ rr τ := by
  refine mt_start RX11 (by decide +kernel) rfl (Nat.le_of_ble_eq_true rfl) (fun p e s m args below meth c ls C hw hl => ?_)
  replace hl : lv_has ls 2 [(0, .ref (E.2.1 (0))), (1, .int p1)] := hl
  obtain ⟨hx, hb, hml, hown, hts, hK, hSt, hlk, hr⟩ := id C
  unfold f_X11_count at h
  refine lv_iload_n hx hb dX11_count_0 rfl (lv_at hl 1 rfl) ?_
  by_cases c_1 : p1 = (0 : Int32)
  · replace h := it_at h c_1
    refine lv_tableIn (off := 39) (tgt := 40) hx hb dX11_count_1 (by rw [c_1]; decide) (by rw [c_1]; decide) (by rw [c_1]; rfl) (by decide) ?_
    refine lv_aload_n hx hb dX11_count_40 rfl (lv_at hl 0 rfl) ?_
    refine gf_11_1 C hw tC_0 kw_402 dX11_count_41 ?_
    refine gf_8_0 C hw tC_2 kw_242 dX11_count_44 ?_
    obtain ⟨rfl, rfl⟩ := ret_at h
    exact q_iret C hw dX11_count_47
  replace h := ie_at h c_1
  by_cases c_2 : p1 = (1 : Int32)
  · replace h := it_at h c_2
    refine lv_tableIn (off := 47) (tgt := 48) hx hb dX11_count_1 (by rw [c_2]; decide) (by rw [c_2]; decide) (by rw [c_2]; rfl) (by decide) ?_
    refine lv_aload_n hx hb dX11_count_48 rfl (lv_at hl 0 rfl) ?_
    refine gf_11_1 C hw tC_0 kw_402 dX11_count_49 ?_
    refine gf_8_4 C hw tC_2 kw_250 (c1 := 8) rfl dX11_count_52 ?_
    refine gf_7_4 C hw tC_8 kw_189 dX11_count_55 ?_
    obtain ⟨rfl, rfl⟩ := ret_at h
    exact q_iret C hw dX11_count_58
  replace h := ie_at h c_2
  by_cases c_3 : p1 = (2 : Int32)
  · replace h := it_at h c_3
    refine lv_tableIn (off := 58) (tgt := 59) hx hb dX11_count_1 (by rw [c_3]; decide) (by rw [c_3]; decide) (by rw [c_3]; rfl) (by decide) ?_
    refine lv_aload_n hx hb dX11_count_59 rfl (lv_at hl 0 rfl) ?_
    refine gf_11_1 C hw tC_0 kw_402 dX11_count_60 ?_
    refine gf_8_5 C hw tC_2 kw_252 (c1 := 13) rfl dX11_count_63 ?_
    refine gf_1_2 C hw tC_13 kw_210 dX11_count_66 ?_
    obtain ⟨rfl, rfl⟩ := ret_at h
    exact q_iret C hw dX11_count_69
  replace h := ie_at h c_3
  by_cases c_4 : p1 = (3 : Int32)
  · replace h := it_at h c_4
    refine lv_tableIn (off := 69) (tgt := 70) hx hb dX11_count_1 (by rw [c_4]; decide) (by rw [c_4]; decide) (by rw [c_4]; rfl) (by decide) ?_
    refine lv_aload_n hx hb dX11_count_70 rfl (lv_at hl 0 rfl) ?_
    refine gf_11_1 C hw tC_0 kw_402 dX11_count_71 ?_
    refine gf_8_6 C hw tC_2 kw_254 (c1 := 16) rfl dX11_count_74 ?_
    refine gf_4_4 C hw tC_16 kw_229 dX11_count_77 ?_
    obtain ⟨rfl, rfl⟩ := ret_at h
    exact q_iret C hw dX11_count_80
  replace h := ie_at h c_4
  by_cases c_5 : p1 = (4 : Int32)
  · replace h := it_at h c_5
    refine lv_tableIn (off := 80) (tgt := 81) hx hb dX11_count_1 (by rw [c_5]; decide) (by rw [c_5]; decide) (by rw [c_5]; rfl) (by decide) ?_
    refine lv_aload_n hx hb dX11_count_81 rfl (lv_at hl 0 rfl) ?_
    refine gf_11_1 C hw tC_0 kw_402 dX11_count_82 ?_
    refine gf_8_1 C hw tC_2 kw_244 (c1 := 3) rfl dX11_count_85 ?_
    refine gf_9_1 C hw tC_3 kw_121 dX11_count_88 ?_
    obtain ⟨rfl, rfl⟩ := ret_at h
    exact q_iret C hw dX11_count_91
  replace h := ie_at h c_5
  by_cases c_6 : p1 = (5 : Int32)
  · replace h := it_at h c_6
    refine lv_tableIn (off := 91) (tgt := 92) hx hb dX11_count_1 (by rw [c_6]; decide) (by rw [c_6]; decide) (by rw [c_6]; rfl) (by decide) ?_
    refine lv_aload_n hx hb dX11_count_92 rfl (lv_at hl 0 rfl) ?_
    refine gf_11_5 C hw tC_0 kw_406 dX11_count_93 ?_
    refine gf_0_1 C hw tC_46 kw_347 dX11_count_96 ?_
    obtain ⟨rfl, rfl⟩ := ret_at h
    exact q_iret C hw dX11_count_99
  replace h := ie_at h c_6
  refine lv_tableOut (tgt := 100) hx hb dX11_count_1 (tsw_out (fun k h1 h2 => by
    rcases (show k = 0 ∨ k = 1 ∨ k = 2 ∨ k = 3 ∨ k = 4 ∨ k = 5 by omega) with rfl | rfl | rfl | rfl | rfl | rfl
    · exact c_1
    · exact c_2
    · exact c_3
    · exact c_4
    · exact c_5
    · exact c_6)) (by decide) ?_
  refine lv_iconst (v := (-1)) hx hb dX11_count_100 (by decide) ?_
  obtain ⟨rfl, rfl⟩ := ret_at h
  exact q_iret C hw dX11_count_101
def f_X11_isSetting (p0 : Int32) (σ : Mem) : Option (Int32 × Mem) :=
  bd (f_X11_within p0 (0 : Int32) (7 : Int32) σ) fun r_1 σ_2 =>
  gd (iz r_1) (some (r_1, σ_2))
set_option maxHeartbeats 4000000 in
set_option maxRecDepth 100000 in
theorem m_X11_isSetting (l : Launch) (E : EV) (p0 : Int32) (σ : Mem) (rr : Int32) (τ : Mem) (h : f_X11_isSetting p0 σ = some (rr, τ)) : MI TC l E yX11_isSetting cX11_isSetting 1 (some .boolean) 1 22 [.int p0] σ rr τ := by
  refine mt_start RX11 (by decide +kernel) rfl (Nat.le_of_ble_eq_true rfl) (fun p e s m args below meth c ls C hw hl => ?_)
  replace hl : lv_has ls 1 [(0, .int p0)] := hl
  obtain ⟨hx, hb, hml, hown, hts, hK, hSt, hlk, hr⟩ := id C
  unfold f_X11_isSetting at h
  refine lv_iload_n hx hb dX11_isSetting_0 rfl (lv_at hl 0 rfl) ?_
  refine lv_iconst (v := 0) hx hb dX11_isSetting_1 (by decide) ?_
  refine lv_bipush (v := 7) hx hb dX11_isSetting_2 (by decide) ?_
  obtain ⟨r_1, σ_2, h_3, h⟩ := bd_at h
  refine q_afterI hw (q_runS C hw hl.1 (As := [.int p0, .int (0 : Int32), .int (7 : Int32)]) (rest := []) (m_X11_within l E p0 (0 : Int32) (7 : Int32) σ r_1 σ_2 h_3) yq_X11_within kw_427 ⟨Nat.le_of_ble_eq_true rfl, Nat.le_of_ble_eq_true rfl⟩ rfl (Nat.le_of_ble_eq_true rfl) ⟨Nat.zero_le _, Nat.zero_le _⟩ dX11_isSetting_4) (fun H locs hw => ?_)
  obtain ⟨g_4, h⟩ := gd_at h
  obtain ⟨rfl, rfl⟩ := ret_at h
  exact q_zret C g_4 hw dX11_isSetting_7
def f_X11_day (p1 : Int32) (p2 : Int32) (σ : Mem) : Option (Int32 × Mem) :=
  if p1 = (-1 : Int32) then
    (lt (sI σ 13 2 (0 : Int32)) fun σ_14 =>
    some ((0 : Int32), σ_14))
  else
    bd (f_X11_isWind p1 σ) fun r_2 σ_3 =>
    if r_2 = 0 then
      (some ((-1 : Int32), σ_3))
    else
      bd (f_X11_isSetting p2 σ_3) fun r_6 σ_7 =>
      if r_6 = 0 then
        (some ((-2 : Int32), σ_7))
      else
        if (gI σ_7 13 2) < (10 : Int32) then
          (bd (f_X1_append p1 p2 σ_7) fun r_11 σ_12 =>
          some (r_11, σ_12))
        else
          some ((-4 : Int32), σ_7)
set_option maxHeartbeats 4000000 in
set_option maxRecDepth 100000 in
theorem m_X11_day (l : Launch) (E : EV) (p1 : Int32) (p2 : Int32) (σ : Mem) (rr : Int32) (τ : Mem) (h : f_X11_day p1 p2 σ = some (rr, τ)) : MI TC l E yX11_day cX11_day 3 (some .int) 2 42 [.ref (E.2.1 (0)), .int p1, .int p2] σ rr τ := by
  refine mt_start RX11 (by decide +kernel) rfl (Nat.le_of_ble_eq_true rfl) (fun p e s m args below meth c ls C hw hl => ?_)
  replace hl : lv_has ls 3 [(0, .ref (E.2.1 (0))), (1, .int p1), (2, .int p2)] := hl
  obtain ⟨hx, hb, hml, hown, hts, hK, hSt, hlk, hr⟩ := id C
  unfold f_X11_day at h
  refine lv_iload_n hx hb dX11_day_0 rfl (lv_at hl 1 rfl) ?_
  refine lv_iconst (v := (-1)) hx hb dX11_day_1 (by decide) ?_
  refine lv_icmp_ne (tgt := 18) hx hb dX11_day_2 (by decide) (fun c_1 => ?_) (fun c_1 => ?_)
  · replace h := ie_at h c_1
    refine lv_iload_n hx hb dX11_day_18 rfl (lv_at hl 1 rfl) ?_
    obtain ⟨r_2, σ_3, h_4, h⟩ := bd_at h
    refine q_afterI hw (q_runS C hw hl.1 (As := [.int p1]) (rest := []) (m_X11_isWind l E p1 σ r_2 σ_3 h_4) yq_X11_isWind kw_616 ⟨Nat.le_of_ble_eq_true rfl, Nat.le_of_ble_eq_true rfl⟩ rfl (Nat.le_of_ble_eq_true rfl) ⟨Nat.zero_le _, Nat.zero_le _⟩ dX11_day_19) (fun H locs hw => ?_)
    refine lv_if_ne (tgt := 27) hx hb dX11_day_22 (by decide) (fun c_5 => ?_) (fun c_5 => ?_)
    · replace h := ie_at h c_5
      refine lv_iload_n hx hb dX11_day_27 rfl (lv_at hl 2 rfl) ?_
      obtain ⟨r_6, σ_7, h_8, h⟩ := bd_at h
      refine q_afterI hw (q_runS C hw hl.1 (As := [.int p2]) (rest := []) (m_X11_isSetting l E p2 σ_3 r_6 σ_7 h_8) yq_X11_isSetting kw_619 ⟨Nat.le_of_ble_eq_true rfl, Nat.le_of_ble_eq_true rfl⟩ rfl (Nat.le_of_ble_eq_true rfl) ⟨Nat.zero_le _, Nat.zero_le _⟩ dX11_day_28) (fun H locs hw => ?_)
      refine lv_if_ne (tgt := 37) hx hb dX11_day_31 (by decide) (fun c_9 => ?_) (fun c_9 => ?_)
      · replace h := ie_at h c_9
        refine lv_aload_n hx hb dX11_day_37 rfl (lv_at hl 0 rfl) ?_
        refine gf_11_1 C hw tC_0 kw_402 dX11_day_38 ?_
        refine gf_8_5 C hw tC_2 kw_252 (c1 := 13) rfl dX11_day_41 ?_
        refine gf_1_2 C hw tC_13 kw_210 dX11_day_44 ?_
        refine lv_bipush (v := 10) hx hb dX11_day_47 (by decide) ?_
        refine lv_icmp_lt (tgt := 55) hx hb dX11_day_49 (by decide) (fun c_10 => ?_) (fun c_10 => ?_)
        · replace h := it_at h c_10
          refine lv_aload_n hx hb dX11_day_55 rfl (lv_at hl 0 rfl) ?_
          refine gf_11_1 C hw tC_0 kw_402 dX11_day_56 ?_
          refine gf_8_5 C hw tC_2 kw_252 (c1 := 13) rfl dX11_day_59 ?_
          refine lv_iload_n hx hb dX11_day_62 rfl (lv_at hl 1 rfl) ?_
          refine lv_iload_n hx hb dX11_day_63 rfl (lv_at hl 2 rfl) ?_
          obtain ⟨r_11, σ_12, h_13, h⟩ := bd_at h
          refine q_afterI hw (q_runV C hw hl.1 (As := [.int p1, .int p2]) (rest := []) (m_X1_append l E p1 p2 σ_7 r_11 σ_12 h_13) yq_X1_append tC_13 rfl rfl kw_846 ⟨Nat.le_of_ble_eq_true rfl, Nat.le_of_ble_eq_true rfl⟩ rfl (Nat.le_of_ble_eq_true rfl) ⟨Nat.zero_le _, Nat.zero_le _⟩ dX11_day_64) (fun H locs hw => ?_)
          obtain ⟨rfl, rfl⟩ := ret_at h
          exact q_iret C hw dX11_day_67
        · replace h := ie_at h c_10
          refine lv_bipush (v := (-4)) hx hb dX11_day_52 (by decide) ?_
          obtain ⟨rfl, rfl⟩ := ret_at h
          exact q_iret C hw dX11_day_54
      · replace h := it_at h c_9
        refine lv_bipush (v := (-2)) hx hb dX11_day_34 (by decide) ?_
        obtain ⟨rfl, rfl⟩ := ret_at h
        exact q_iret C hw dX11_day_36
    · replace h := it_at h c_5
      refine lv_iconst (v := (-1)) hx hb dX11_day_25 (by decide) ?_
      obtain ⟨rfl, rfl⟩ := ret_at h
      exact q_iret C hw dX11_day_26
  · replace h := it_at h c_1
    refine lv_aload_n hx hb dX11_day_5 rfl (lv_at hl 0 rfl) ?_
    refine gf_11_1 C hw tC_0 kw_402 dX11_day_6 ?_
    refine gf_8_5 C hw tC_2 kw_252 (c1 := 13) rfl dX11_day_9 ?_
    refine lv_iconst (v := 0) hx hb dX11_day_12 (by decide) ?_
    obtain ⟨σ_14, eσ_14, h⟩ := lt_at h
    refine pf_1_2 C hw tC_13 kw_210 eσ_14 dX11_day_13 (fun H locs hw => ?_)
    refine lv_iconst (v := 0) hx hb dX11_day_16 (by decide) ?_
    obtain ⟨rfl, rfl⟩ := ret_at h
    exact q_iret C hw dX11_day_17
def f_X11_dress (p1 : Int32) (p2 : Int32) (σ : Mem) : Option (Int32 × Mem) :=
  bd (f_X11_isWind p2 σ) fun r_1 σ_2 =>
  if r_1 = 0 then
    (some ((-1 : Int32), σ_2))
  else
    bd (f_X11_within p1 (1 : Int32) (4 : Int32) σ_2) fun r_5 σ_6 =>
    if r_5 = 0 then
      (some ((-2 : Int32), σ_6))
    else
      bd (f_X11_isLed σ_6) fun r_9 σ_10 =>
      if r_9 = 0 then
        (some ((-3 : Int32), σ_10))
      else
        if (gI σ_10 7 5) = 0 then
          (gd (ib (gI σ_10 7 0) 5) <|
          bv (f_X5_begin (mo (gI σ_10 7 0).toNatClampNeg) σ_10) fun σ_16 =>
          bd (f_X5_dressing p1 p2 (gI σ_16 7 2) (gI σ_16 7 3) σ_16) fun r_18 σ_19 =>
          some (r_18, σ_19))
        else
          some ((-5 : Int32), σ_10)
set_option maxHeartbeats 4000000 in
set_option maxRecDepth 100000 in
theorem m_X11_dress (l : Launch) (E : EV) (p1 : Int32) (p2 : Int32) (σ : Mem) (rr : Int32) (τ : Mem) (h : f_X11_dress p1 p2 σ = some (rr, τ)) : MI TC l E yX11_dress cX11_dress 3 (some .int) 234 8967 [.ref (E.2.1 (0)), .int p1, .int p2] σ rr τ := by
  refine mt_start RX11 (by decide +kernel) rfl (Nat.le_of_ble_eq_true rfl) (fun p e s m args below meth c ls C hw hl => ?_)
  replace hl : lv_has ls 3 [(0, .ref (E.2.1 (0))), (1, .int p1), (2, .int p2)] := hl
  obtain ⟨hx, hb, hml, hown, hts, hK, hSt, hlk, hr⟩ := id C
  unfold f_X11_dress at h
  refine lv_iload_n hx hb dX11_dress_0 rfl (lv_at hl 2 rfl) ?_
  obtain ⟨r_1, σ_2, h_3, h⟩ := bd_at h
  refine q_afterI hw (q_runS C hw hl.1 (As := [.int p2]) (rest := []) (m_X11_isWind l E p2 σ r_1 σ_2 h_3) yq_X11_isWind kw_616 ⟨Nat.le_of_ble_eq_true rfl, Nat.le_of_ble_eq_true rfl⟩ rfl (Nat.le_of_ble_eq_true rfl) ⟨Nat.zero_le _, Nat.zero_le _⟩ dX11_dress_1) (fun H locs hw => ?_)
  refine lv_if_ne (tgt := 9) hx hb dX11_dress_4 (by decide) (fun c_4 => ?_) (fun c_4 => ?_)
  · replace h := ie_at h c_4
    refine lv_iload_n hx hb dX11_dress_9 rfl (lv_at hl 1 rfl) ?_
    refine lv_iconst (v := 1) hx hb dX11_dress_10 (by decide) ?_
    refine lv_iconst (v := 4) hx hb dX11_dress_11 (by decide) ?_
    obtain ⟨r_5, σ_6, h_7, h⟩ := bd_at h
    refine q_afterI hw (q_runS C hw hl.1 (As := [.int p1, .int (1 : Int32), .int (4 : Int32)]) (rest := []) (m_X11_within l E p1 (1 : Int32) (4 : Int32) σ_2 r_5 σ_6 h_7) yq_X11_within kw_427 ⟨Nat.le_of_ble_eq_true rfl, Nat.le_of_ble_eq_true rfl⟩ rfl (Nat.le_of_ble_eq_true rfl) ⟨Nat.zero_le _, Nat.zero_le _⟩ dX11_dress_12) (fun H locs hw => ?_)
    refine lv_if_ne (tgt := 21) hx hb dX11_dress_15 (by decide) (fun c_8 => ?_) (fun c_8 => ?_)
    · replace h := ie_at h c_8
      refine lv_aload_n hx hb dX11_dress_21 rfl (lv_at hl 0 rfl) ?_
      obtain ⟨r_9, σ_10, h_11, h⟩ := bd_at h
      refine q_afterI hw (q_runV C hw hl.1 (As := []) (rest := []) (m_X11_isLed l E  σ_6 r_9 σ_10 h_11) yq_X11_isLed tC_0 rfl rfl kw_699 ⟨Nat.le_of_ble_eq_true rfl, Nat.le_of_ble_eq_true rfl⟩ rfl (Nat.le_of_ble_eq_true rfl) ⟨Nat.zero_le _, Nat.zero_le _⟩ dX11_dress_22) (fun H locs hw => ?_)
      refine lv_if_ne (tgt := 31) hx hb dX11_dress_25 (by decide) (fun c_12 => ?_) (fun c_12 => ?_)
      · replace h := ie_at h c_12
        refine lv_aload_n hx hb dX11_dress_31 rfl (lv_at hl 0 rfl) ?_
        refine gf_11_1 C hw tC_0 kw_402 dX11_dress_32 ?_
        refine gf_8_3 C hw tC_2 kw_248 (c1 := 7) rfl dX11_dress_35 ?_
        refine gf_2_5 C hw tC_7 kw_157 dX11_dress_38 ?_
        refine lv_if_eq (tgt := 47) hx hb dX11_dress_41 (by decide) (fun c_13 => ?_) (fun c_13 => ?_)
        · replace h := it_at h c_13
          refine lv_aload_n hx hb dX11_dress_47 rfl (lv_at hl 0 rfl) ?_
          refine gf_11_4 C hw tC_0 kw_405 dX11_dress_48 ?_
          refine lv_aload_n hx hb dX11_dress_51 rfl (lv_at hl 0 rfl) ?_
          refine gf_11_0 C hw tC_0 kw_401 dX11_dress_52 ?_
          refine lv_aload_n hx hb dX11_dress_55 rfl (lv_at hl 0 rfl) ?_
          refine gf_11_1 C hw tC_0 kw_402 dX11_dress_56 ?_
          refine gf_8_3 C hw tC_2 kw_248 (c1 := 7) rfl dX11_dress_59 ?_
          refine gf_2_0 C hw tC_7 kw_147 dX11_dress_62 ?_
          obtain ⟨g_14, h⟩ := gd_at h
          refine q_aald C hw g_14 dX11_dress_65 ?_
          refine lv_aload_n hx hb dX11_dress_66 rfl (lv_at hl 0 rfl) ?_
          refine gf_11_1 C hw tC_0 kw_402 dX11_dress_67 ?_
          refine gf_8_2 C hw tC_2 kw_246 (c1 := 5) rfl dX11_dress_70 ?_
          obtain ⟨σ_16, h_17, h⟩ := bv_at h
          refine q_afterV hw (q_runV C hw hl.1 (As := [.ref (E.2.1 (mo (gI σ_10 7 0).toNatClampNeg)), .ref (E.2.1 (5))]) (rest := []) (m_X5_begin l E (mo (gI σ_10 7 0).toNatClampNeg) (MO.of_ib g_14) σ_10 σ_16 h_17) yq_X5_begin tC_41 rfl rfl kw_741 ⟨Nat.le_of_ble_eq_true rfl, Nat.le_of_ble_eq_true rfl⟩ rfl (Nat.le_of_ble_eq_true rfl) ⟨Nat.zero_le _, Nat.zero_le _⟩ dX11_dress_73) (fun H locs hw => ?_)
          refine lv_aload_n hx hb dX11_dress_76 rfl (lv_at hl 0 rfl) ?_
          refine gf_11_4 C hw tC_0 kw_405 dX11_dress_77 ?_
          refine lv_iload_n hx hb dX11_dress_80 rfl (lv_at hl 1 rfl) ?_
          refine lv_iload_n hx hb dX11_dress_81 rfl (lv_at hl 2 rfl) ?_
          refine lv_aload_n hx hb dX11_dress_82 rfl (lv_at hl 0 rfl) ?_
          refine gf_11_1 C hw tC_0 kw_402 dX11_dress_83 ?_
          refine gf_8_3 C hw tC_2 kw_248 (c1 := 7) rfl dX11_dress_86 ?_
          refine gf_2_2 C hw tC_7 kw_151 dX11_dress_89 ?_
          refine lv_aload_n hx hb dX11_dress_92 rfl (lv_at hl 0 rfl) ?_
          refine gf_11_1 C hw tC_0 kw_402 dX11_dress_93 ?_
          refine gf_8_3 C hw tC_2 kw_248 (c1 := 7) rfl dX11_dress_96 ?_
          refine gf_2_3 C hw tC_7 kw_153 dX11_dress_99 ?_
          obtain ⟨r_18, σ_19, h_20, h⟩ := bd_at h
          refine q_afterI hw (q_runV C hw hl.1 (As := [.int p1, .int p2, .int (gI σ_16 7 2), .int (gI σ_16 7 3)]) (rest := []) (m_X5_dressing l E p1 p2 (gI σ_16 7 2) (gI σ_16 7 3) σ_16 r_18 σ_19 h_20) yq_X5_dressing tC_41 rfl rfl kw_838 ⟨Nat.le_of_ble_eq_true rfl, Nat.le_of_ble_eq_true rfl⟩ rfl (Nat.le_of_ble_eq_true rfl) ⟨Nat.zero_le _, Nat.zero_le _⟩ dX11_dress_102) (fun H locs hw => ?_)
          obtain ⟨rfl, rfl⟩ := ret_at h
          exact q_iret C hw dX11_dress_105
        · replace h := ie_at h c_13
          refine lv_bipush (v := (-5)) hx hb dX11_dress_44 (by decide) ?_
          obtain ⟨rfl, rfl⟩ := ret_at h
          exact q_iret C hw dX11_dress_46
      · replace h := it_at h c_12
        refine lv_bipush (v := (-3)) hx hb dX11_dress_28 (by decide) ?_
        obtain ⟨rfl, rfl⟩ := ret_at h
        exact q_iret C hw dX11_dress_30
    · replace h := it_at h c_8
      refine lv_bipush (v := (-2)) hx hb dX11_dress_18 (by decide) ?_
      obtain ⟨rfl, rfl⟩ := ret_at h
      exact q_iret C hw dX11_dress_20
  · replace h := it_at h c_4
    refine lv_iconst (v := (-1)) hx hb dX11_dress_7 (by decide) ?_
    obtain ⟨rfl, rfl⟩ := ret_at h
    exact q_iret C hw dX11_dress_8
def f_X11_feed (p1 : Int64) (p3 : Int32) (σ : Mem) : Option (Int32 × Mem) :=
  bd (f_X11_within p3 (1 : Int32) (8 : Int32) σ) fun r_1 σ_2 =>
  if r_1 = 0 then
    (some ((-2 : Int32), σ_2))
  else
    if ((gI σ_2 3 1) + p3) ≤ (120 : Int32) then
      (bv (f_X9_append p1 p3 σ_2) fun σ_7 =>
      some (gI σ_7 3 1, σ_7))
    else
      some ((-4 : Int32), σ_2)
set_option maxHeartbeats 4000000 in
set_option maxRecDepth 100000 in
theorem m_X11_feed (l : Launch) (E : EV) (p1 : Int64) (p3 : Int32) (σ : Mem) (rr : Int32) (τ : Mem) (h : f_X11_feed p1 p3 σ = some (rr, τ)) : MI TC l E yX11_feed cX11_feed 4 (some .int) 1 24 [.ref (E.2.1 (0)), .long p1, .int p3] σ rr τ := by
  refine mt_start RX11 (by decide +kernel) rfl (Nat.le_of_ble_eq_true rfl) (fun p e s m args below meth c ls C hw hl => ?_)
  replace hl : lv_has ls 4 [(0, .ref (E.2.1 (0))), (1, .long p1), (3, .int p3)] := hl
  obtain ⟨hx, hb, hml, hown, hts, hK, hSt, hlk, hr⟩ := id C
  unfold f_X11_feed at h
  refine lv_iload_n hx hb dX11_feed_0 rfl (lv_at hl 2 rfl) ?_
  refine lv_iconst (v := 1) hx hb dX11_feed_1 (by decide) ?_
  refine lv_bipush (v := 8) hx hb dX11_feed_2 (by decide) ?_
  obtain ⟨r_1, σ_2, h_3, h⟩ := bd_at h
  refine q_afterI hw (q_runS C hw hl.1 (As := [.int p3, .int (1 : Int32), .int (8 : Int32)]) (rest := []) (m_X11_within l E p3 (1 : Int32) (8 : Int32) σ r_1 σ_2 h_3) yq_X11_within kw_427 ⟨Nat.le_of_ble_eq_true rfl, Nat.le_of_ble_eq_true rfl⟩ rfl (Nat.le_of_ble_eq_true rfl) ⟨Nat.zero_le _, Nat.zero_le _⟩ dX11_feed_4) (fun H locs hw => ?_)
  refine lv_if_ne (tgt := 13) hx hb dX11_feed_7 (by decide) (fun c_4 => ?_) (fun c_4 => ?_)
  · replace h := ie_at h c_4
    refine lv_aload_n hx hb dX11_feed_13 rfl (lv_at hl 0 rfl) ?_
    refine gf_11_1 C hw tC_0 kw_402 dX11_feed_14 ?_
    refine gf_8_1 C hw tC_2 kw_244 (c1 := 3) rfl dX11_feed_17 ?_
    refine gf_9_1 C hw tC_3 kw_121 dX11_feed_20 ?_
    refine lv_iload_n hx hb dX11_feed_23 rfl (lv_at hl 2 rfl) ?_
    refine lv_iadd hx hb dX11_feed_24 ?_
    refine lv_bipush (v := 120) hx hb dX11_feed_25 (by decide) ?_
    refine lv_icmp_le (tgt := 33) hx hb dX11_feed_27 (by decide) (fun c_5 => ?_) (fun c_5 => ?_)
    · replace h := it_at h c_5
      refine lv_aload_n hx hb dX11_feed_33 rfl (lv_at hl 0 rfl) ?_
      refine gf_11_1 C hw tC_0 kw_402 dX11_feed_34 ?_
      refine gf_8_1 C hw tC_2 kw_244 (c1 := 3) rfl dX11_feed_37 ?_
      refine lv_lload_n hx hb dX11_feed_40 rfl (lv_at hl 1 rfl) ?_
      refine lv_iload_n hx hb dX11_feed_41 rfl (lv_at hl 2 rfl) ?_
      obtain ⟨σ_7, h_8, h⟩ := bv_at h
      refine q_afterV hw (q_runV C hw hl.1 (As := [.long p1, .int p3]) (rest := []) (m_X9_append l E p1 p3 σ_2 σ_7 h_8) yq_X9_append tC_3 rfl rfl kw_430 ⟨Nat.le_of_ble_eq_true rfl, Nat.le_of_ble_eq_true rfl⟩ rfl (Nat.le_of_ble_eq_true rfl) ⟨Nat.zero_le _, Nat.zero_le _⟩ dX11_feed_42) (fun H locs hw => ?_)
      refine lv_aload_n hx hb dX11_feed_45 rfl (lv_at hl 0 rfl) ?_
      refine gf_11_1 C hw tC_0 kw_402 dX11_feed_46 ?_
      refine gf_8_1 C hw tC_2 kw_244 (c1 := 3) rfl dX11_feed_49 ?_
      refine gf_9_1 C hw tC_3 kw_121 dX11_feed_52 ?_
      obtain ⟨rfl, rfl⟩ := ret_at h
      exact q_iret C hw dX11_feed_55
    · replace h := ie_at h c_5
      refine lv_bipush (v := (-4)) hx hb dX11_feed_30 (by decide) ?_
      obtain ⟨rfl, rfl⟩ := ret_at h
      exact q_iret C hw dX11_feed_32
  · replace h := it_at h c_4
    refine lv_bipush (v := (-2)) hx hb dX11_feed_10 (by decide) ?_
    obtain ⟨rfl, rfl⟩ := ret_at h
    exact q_iret C hw dX11_feed_12
def f_X11_go (p1 : Int32) (p2 : Int32) (σ : Mem) : Option (Int32 × Mem) :=
  bd (f_X11_isWind p1 σ) fun r_1 σ_2 =>
  if r_1 = 0 then
    (some ((-11 : Int32), σ_2))
  else
    bd (f_X11_isSetting p2 σ_2) fun r_5 σ_6 =>
    if r_5 = 0 then
      (some ((-12 : Int32), σ_6))
    else
      bd (f_X11_isLed σ_6) fun r_9 σ_10 =>
      if r_9 = 0 then
        (some ((-13 : Int32), σ_10))
      else
        if (gI σ_10 7 1) < (999 : Int32) then
          (gd (ib (gI σ_10 7 0) 5) <|
          bd (f_X2_goOn (mo (gI σ_10 7 0).toNatClampNeg) p1 p2 σ_10) fun r_15 σ_16 =>
          some (r_15, σ_16))
        else
          some ((-13 : Int32), σ_10)
set_option maxHeartbeats 4000000 in
set_option maxRecDepth 100000 in
theorem m_X11_go (l : Launch) (E : EV) (p1 : Int32) (p2 : Int32) (σ : Mem) (rr : Int32) (τ : Mem) (h : f_X11_go p1 p2 σ = some (rr, τ)) : MI TC l E yX11_go cX11_go 3 (some .int) 4 103 [.ref (E.2.1 (0)), .int p1, .int p2] σ rr τ := by
  refine mt_start RX11 (by decide +kernel) rfl (Nat.le_of_ble_eq_true rfl) (fun p e s m args below meth c ls C hw hl => ?_)
  replace hl : lv_has ls 3 [(0, .ref (E.2.1 (0))), (1, .int p1), (2, .int p2)] := hl
  obtain ⟨hx, hb, hml, hown, hts, hK, hSt, hlk, hr⟩ := id C
  unfold f_X11_go at h
  refine lv_iload_n hx hb dX11_go_0 rfl (lv_at hl 1 rfl) ?_
  obtain ⟨r_1, σ_2, h_3, h⟩ := bd_at h
  refine q_afterI hw (q_runS C hw hl.1 (As := [.int p1]) (rest := []) (m_X11_isWind l E p1 σ r_1 σ_2 h_3) yq_X11_isWind kw_616 ⟨Nat.le_of_ble_eq_true rfl, Nat.le_of_ble_eq_true rfl⟩ rfl (Nat.le_of_ble_eq_true rfl) ⟨Nat.zero_le _, Nat.zero_le _⟩ dX11_go_1) (fun H locs hw => ?_)
  refine lv_if_ne (tgt := 10) hx hb dX11_go_4 (by decide) (fun c_4 => ?_) (fun c_4 => ?_)
  · replace h := ie_at h c_4
    refine lv_iload_n hx hb dX11_go_10 rfl (lv_at hl 2 rfl) ?_
    obtain ⟨r_5, σ_6, h_7, h⟩ := bd_at h
    refine q_afterI hw (q_runS C hw hl.1 (As := [.int p2]) (rest := []) (m_X11_isSetting l E p2 σ_2 r_5 σ_6 h_7) yq_X11_isSetting kw_619 ⟨Nat.le_of_ble_eq_true rfl, Nat.le_of_ble_eq_true rfl⟩ rfl (Nat.le_of_ble_eq_true rfl) ⟨Nat.zero_le _, Nat.zero_le _⟩ dX11_go_11) (fun H locs hw => ?_)
    refine lv_if_ne (tgt := 20) hx hb dX11_go_14 (by decide) (fun c_8 => ?_) (fun c_8 => ?_)
    · replace h := ie_at h c_8
      refine lv_aload_n hx hb dX11_go_20 rfl (lv_at hl 0 rfl) ?_
      obtain ⟨r_9, σ_10, h_11, h⟩ := bd_at h
      refine q_afterI hw (q_runV C hw hl.1 (As := []) (rest := []) (m_X11_isLed l E  σ_6 r_9 σ_10 h_11) yq_X11_isLed tC_0 rfl rfl kw_699 ⟨Nat.le_of_ble_eq_true rfl, Nat.le_of_ble_eq_true rfl⟩ rfl (Nat.le_of_ble_eq_true rfl) ⟨Nat.zero_le _, Nat.zero_le _⟩ dX11_go_21) (fun H locs hw => ?_)
      refine lv_if_eq (tgt := 43) hx hb dX11_go_24 (by decide) (fun c_12 => ?_) (fun c_12 => ?_)
      · replace h := it_at h c_12
        refine lv_bipush (v := (-13)) hx hb dX11_go_43 (by decide) ?_
        obtain ⟨rfl, rfl⟩ := ret_at h
        exact q_iret C hw dX11_go_45
      · replace h := ie_at h c_12
        refine lv_aload_n hx hb dX11_go_27 rfl (lv_at hl 0 rfl) ?_
        refine gf_11_1 C hw tC_0 kw_402 dX11_go_28 ?_
        refine gf_8_3 C hw tC_2 kw_248 (c1 := 7) rfl dX11_go_31 ?_
        refine gf_2_1 C hw tC_7 kw_149 dX11_go_34 ?_
        refine lv_sipush (v := 999) hx hb dX11_go_37 (by decide) ?_
        refine lv_icmp_lt (tgt := 46) hx hb dX11_go_40 (by decide) (fun c_13 => ?_) (fun c_13 => ?_)
        · replace h := it_at h c_13
          refine lv_aload_n hx hb dX11_go_46 rfl (lv_at hl 0 rfl) ?_
          refine gf_11_1 C hw tC_0 kw_402 dX11_go_47 ?_
          refine gf_8_3 C hw tC_2 kw_248 (c1 := 7) rfl dX11_go_50 ?_
          refine lv_aload_n hx hb dX11_go_53 rfl (lv_at hl 0 rfl) ?_
          refine gf_11_0 C hw tC_0 kw_401 dX11_go_54 ?_
          refine lv_aload_n hx hb dX11_go_57 rfl (lv_at hl 0 rfl) ?_
          refine gf_11_1 C hw tC_0 kw_402 dX11_go_58 ?_
          refine gf_8_3 C hw tC_2 kw_248 (c1 := 7) rfl dX11_go_61 ?_
          refine gf_2_0 C hw tC_7 kw_147 dX11_go_64 ?_
          obtain ⟨g_14, h⟩ := gd_at h
          refine q_aald C hw g_14 dX11_go_67 ?_
          refine lv_iload_n hx hb dX11_go_68 rfl (lv_at hl 1 rfl) ?_
          refine lv_iload_n hx hb dX11_go_69 rfl (lv_at hl 2 rfl) ?_
          obtain ⟨r_15, σ_16, h_17, h⟩ := bd_at h
          refine q_afterI hw (q_runV C hw hl.1 (As := [.ref (E.2.1 (mo (gI σ_10 7 0).toNatClampNeg)), .int p1, .int p2]) (rest := []) (m_X2_goOn l E (mo (gI σ_10 7 0).toNatClampNeg) (MO.of_ib g_14) p1 p2 σ_10 r_15 σ_16 h_17) yq_X2_goOn tC_7 rfl rfl kw_707 ⟨Nat.le_of_ble_eq_true rfl, Nat.le_of_ble_eq_true rfl⟩ rfl (Nat.le_of_ble_eq_true rfl) ⟨Nat.zero_le _, Nat.zero_le _⟩ dX11_go_70) (fun H locs hw => ?_)
          obtain ⟨rfl, rfl⟩ := ret_at h
          exact q_iret C hw dX11_go_73
        · replace h := ie_at h c_13
          refine lv_bipush (v := (-13)) hx hb dX11_go_43 (by decide) ?_
          obtain ⟨rfl, rfl⟩ := ret_at h
          exact q_iret C hw dX11_go_45
    · replace h := it_at h c_8
      refine lv_bipush (v := (-12)) hx hb dX11_go_17 (by decide) ?_
      obtain ⟨rfl, rfl⟩ := ret_at h
      exact q_iret C hw dX11_go_19
  · replace h := it_at h c_4
    refine lv_bipush (v := (-11)) hx hb dX11_go_7 (by decide) ?_
    obtain ⟨rfl, rfl⟩ := ret_at h
    exact q_iret C hw dX11_go_9
def f_X11_ground (p1 : Int32) (p2 : Int32) (p3 : Int32) (σ : Mem) : Option (Int32 × Mem) :=
  gd (ib p1 5) <|
  bd (f_X3_hourBy (mo p1.toNatClampNeg) p2 (p3 * (2 : Int32)) (0 : Int32) (0 : Int32) σ) fun r_2 σ_3 =>
  bd (f_X3_gainOf r_2 σ_3) fun r_5 σ_6 =>
  some (r_5, σ_6)
set_option maxHeartbeats 4000000 in
set_option maxRecDepth 100000 in
theorem m_X11_ground (l : Launch) (E : EV) (p1 : Int32) (p2 : Int32) (p3 : Int32) (σ : Mem) (rr : Int32) (τ : Mem) (h : f_X11_ground p1 p2 p3 σ = some (rr, τ)) : MI TC l E yX11_ground cX11_ground 4 (some .int) 3 79 [.ref (E.2.1 (0)), .int p1, .int p2, .int p3] σ rr τ := by
  refine mt_start RX11 (by decide +kernel) rfl (Nat.le_of_ble_eq_true rfl) (fun p e s m args below meth c ls C hw hl => ?_)
  replace hl : lv_has ls 4 [(0, .ref (E.2.1 (0))), (1, .int p1), (2, .int p2), (3, .int p3)] := hl
  obtain ⟨hx, hb, hml, hown, hts, hK, hSt, hlk, hr⟩ := id C
  unfold f_X11_ground at h
  refine lv_aload_n hx hb dX11_ground_0 rfl (lv_at hl 0 rfl) ?_
  refine gf_11_0 C hw tC_0 kw_401 dX11_ground_1 ?_
  refine lv_iload_n hx hb dX11_ground_4 rfl (lv_at hl 1 rfl) ?_
  obtain ⟨g_1, h⟩ := gd_at h
  refine q_aald C hw g_1 dX11_ground_5 ?_
  refine lv_iload_n hx hb dX11_ground_6 rfl (lv_at hl 2 rfl) ?_
  refine lv_iload_n hx hb dX11_ground_7 rfl (lv_at hl 3 rfl) ?_
  refine lv_iconst (v := 2) hx hb dX11_ground_8 (by decide) ?_
  refine lv_imul hx hb dX11_ground_9 ?_
  refine lv_iconst (v := 0) hx hb dX11_ground_10 (by decide) ?_
  refine lv_iconst (v := 0) hx hb dX11_ground_11 (by decide) ?_
  obtain ⟨r_2, σ_3, h_4, h⟩ := bd_at h
  refine q_afterI hw (q_runV C hw hl.1 (As := [.int p2, .int (p3 * (2 : Int32)), .int (0 : Int32), .int (0 : Int32)]) (rest := []) (m_X3_hourBy l E (mo p1.toNatClampNeg) (MO.of_ib g_1) p2 (p3 * (2 : Int32)) (0 : Int32) (0 : Int32) σ r_2 σ_3 h_4) yq_X3_hourBy (mo_T (MO.of_ib g_1)).1 rfl rfl kw_622 ⟨Nat.le_of_ble_eq_true rfl, Nat.le_of_ble_eq_true rfl⟩ rfl (Nat.le_of_ble_eq_true rfl) ⟨Nat.zero_le _, Nat.zero_le _⟩ dX11_ground_12) (fun H locs hw => ?_)
  obtain ⟨r_5, σ_6, h_7, h⟩ := bd_at h
  refine q_afterI hw (q_runS C hw hl.1 (As := [.int r_2]) (rest := []) (m_X3_gainOf l E r_2 σ_3 r_5 σ_6 h_7) yq_X3_gainOf kw_645 ⟨Nat.le_of_ble_eq_true rfl, Nat.le_of_ble_eq_true rfl⟩ rfl (Nat.le_of_ble_eq_true rfl) ⟨Nat.zero_le _, Nat.zero_le _⟩ dX11_ground_15) (fun H locs hw => ?_)
  obtain ⟨rfl, rfl⟩ := ret_at h
  exact q_iret C hw dX11_ground_18
def f_X11_hour (p1 : Int32) (p2 : Int32) (p3 : Int32) (p4 : Int32) (p5 : Int32) (p6 : Int32) (σ : Mem) : Option (Int32 × Mem) :=
  bd (f_X11_isMill p1 σ) fun r_1 σ_2 =>
  if r_1 = 0 then
    (some ((-1 : Int32), σ_2))
  else
    bd (f_X11_isWind p2 σ_2) fun r_5 σ_6 =>
    if r_5 = 0 then
      (some ((-1 : Int32), σ_6))
    else
      bd (f_X11_within p6 (0 : Int32) (5 : Int32) σ_6) fun r_9 σ_10 =>
      if r_9 = 0 then
        (some ((-1 : Int32), σ_10))
      else
        bd (f_X11_isSetting p3 σ_10) fun r_13 σ_14 =>
        if r_13 = 0 then
          (some ((-2 : Int32), σ_14))
        else
          bd (f_X11_within p4 (0 : Int32) (9 : Int32) σ_14) fun r_17 σ_18 =>
          if r_17 = 0 then
            (some ((-2 : Int32), σ_18))
          else
            bd (f_X11_within p5 (0 : Int32) (9 : Int32) σ_18) fun r_21 σ_22 =>
            if r_21 = 0 then
              (some ((-2 : Int32), σ_22))
            else
              gd (ib p1 5) <|
              bd (f_X3_hourBy (mo p1.toNatClampNeg) p2 p3 p4 p5 σ_22) fun r_26 σ_27 =>
              if p6 = (0 : Int32) then
                (bd (f_X3_fastOf r_26 σ_27) fun r_30 σ_31 =>
                some (r_30, σ_31))
              else
              if p6 = (1 : Int32) then
                (bd (f_X3_gainOf r_26 σ_27) fun r_34 σ_35 =>
                some (r_34, σ_35))
              else
              if p6 = (2 : Int32) then
                (bd (f_X3_heatOf r_26 σ_27) fun r_38 σ_39 =>
                some (r_38, σ_39))
              else
              if p6 = (3 : Int32) then
                (bd (f_X3_dullOf r_26 σ_27) fun r_42 σ_43 =>
                some (r_42, σ_43))
              else
              if p6 = (4 : Int32) then
                (bd (f_X3_isBurnt r_26 σ_27) fun r_46 σ_47 =>
                if r_46 = 0 then
                  (some ((0 : Int32), σ_47))
                else
                  some ((1 : Int32), σ_47))
              else
              bd (f_X3_isAway r_26 σ_27) fun r_50 σ_51 =>
              if r_50 = 0 then
                (some ((0 : Int32), σ_51))
              else
                some ((1 : Int32), σ_51)
set_option maxHeartbeats 4000000 in
set_option maxRecDepth 100000 in
theorem m_X11_hour (l : Launch) (E : EV) (p1 : Int32) (p2 : Int32) (p3 : Int32) (p4 : Int32) (p5 : Int32) (p6 : Int32) (σ : Mem) (rr : Int32) (τ : Mem) (h : f_X11_hour p1 p2 p3 p4 p5 p6 σ = some (rr, τ)) : MI TC l E yX11_hour cX11_hour 8 (some .int) 3 79 [.ref (E.2.1 (0)), .int p1, .int p2, .int p3, .int p4, .int p5, .int p6] σ rr τ := by
  refine mt_start RX11 (by decide +kernel) rfl (Nat.le_of_ble_eq_true rfl) (fun p e s m args below meth c ls C hw hl => ?_)
  replace hl : lv_has ls 8 [(0, .ref (E.2.1 (0))), (1, .int p1), (2, .int p2), (3, .int p3), (4, .int p4), (5, .int p5), (6, .int p6)] := hl
  obtain ⟨hx, hb, hml, hown, hts, hK, hSt, hlk, hr⟩ := id C
  unfold f_X11_hour at h
  refine lv_aload_n hx hb dX11_hour_0 rfl (lv_at hl 0 rfl) ?_
  refine lv_iload_n hx hb dX11_hour_1 rfl (lv_at hl 1 rfl) ?_
  obtain ⟨r_1, σ_2, h_3, h⟩ := bd_at h
  refine q_afterI hw (q_runV C hw hl.1 (As := [.int p1]) (rest := []) (m_X11_isMill l E p1 σ r_1 σ_2 h_3) yq_X11_isMill tC_0 rfl rfl kw_612 ⟨Nat.le_of_ble_eq_true rfl, Nat.le_of_ble_eq_true rfl⟩ rfl (Nat.le_of_ble_eq_true rfl) ⟨Nat.zero_le _, Nat.zero_le _⟩ dX11_hour_2) (fun H locs hw => ?_)
  refine lv_if_eq (tgt := 25) hx hb dX11_hour_5 (by decide) (fun c_4 => ?_) (fun c_4 => ?_)
  · replace h := it_at h c_4
    refine lv_iconst (v := (-1)) hx hb dX11_hour_25 (by decide) ?_
    obtain ⟨rfl, rfl⟩ := ret_at h
    exact q_iret C hw dX11_hour_26
  · replace h := ie_at h c_4
    refine lv_iload_n hx hb dX11_hour_8 rfl (lv_at hl 2 rfl) ?_
    obtain ⟨r_5, σ_6, h_7, h⟩ := bd_at h
    refine q_afterI hw (q_runS C hw hl.1 (As := [.int p2]) (rest := []) (m_X11_isWind l E p2 σ_2 r_5 σ_6 h_7) yq_X11_isWind kw_616 ⟨Nat.le_of_ble_eq_true rfl, Nat.le_of_ble_eq_true rfl⟩ rfl (Nat.le_of_ble_eq_true rfl) ⟨Nat.zero_le _, Nat.zero_le _⟩ dX11_hour_9) (fun H locs hw => ?_)
    refine lv_if_eq (tgt := 25) hx hb dX11_hour_12 (by decide) (fun c_8 => ?_) (fun c_8 => ?_)
    · replace h := it_at h c_8
      refine lv_iconst (v := (-1)) hx hb dX11_hour_25 (by decide) ?_
      obtain ⟨rfl, rfl⟩ := ret_at h
      exact q_iret C hw dX11_hour_26
    · replace h := ie_at h c_8
      refine lv_iload hx hb dX11_hour_15 (lv_at hl 6 rfl) ?_
      refine lv_iconst (v := 0) hx hb dX11_hour_17 (by decide) ?_
      refine lv_iconst (v := 5) hx hb dX11_hour_18 (by decide) ?_
      obtain ⟨r_9, σ_10, h_11, h⟩ := bd_at h
      refine q_afterI hw (q_runS C hw hl.1 (As := [.int p6, .int (0 : Int32), .int (5 : Int32)]) (rest := []) (m_X11_within l E p6 (0 : Int32) (5 : Int32) σ_6 r_9 σ_10 h_11) yq_X11_within kw_427 ⟨Nat.le_of_ble_eq_true rfl, Nat.le_of_ble_eq_true rfl⟩ rfl (Nat.le_of_ble_eq_true rfl) ⟨Nat.zero_le _, Nat.zero_le _⟩ dX11_hour_19) (fun H locs hw => ?_)
      refine lv_if_ne (tgt := 27) hx hb dX11_hour_22 (by decide) (fun c_12 => ?_) (fun c_12 => ?_)
      · replace h := ie_at h c_12
        refine lv_iload_n hx hb dX11_hour_27 rfl (lv_at hl 3 rfl) ?_
        obtain ⟨r_13, σ_14, h_15, h⟩ := bd_at h
        refine q_afterI hw (q_runS C hw hl.1 (As := [.int p3]) (rest := []) (m_X11_isSetting l E p3 σ_10 r_13 σ_14 h_15) yq_X11_isSetting kw_619 ⟨Nat.le_of_ble_eq_true rfl, Nat.le_of_ble_eq_true rfl⟩ rfl (Nat.le_of_ble_eq_true rfl) ⟨Nat.zero_le _, Nat.zero_le _⟩ dX11_hour_28) (fun H locs hw => ?_)
        refine lv_if_eq (tgt := 56) hx hb dX11_hour_31 (by decide) (fun c_16 => ?_) (fun c_16 => ?_)
        · replace h := it_at h c_16
          refine lv_bipush (v := (-2)) hx hb dX11_hour_56 (by decide) ?_
          obtain ⟨rfl, rfl⟩ := ret_at h
          exact q_iret C hw dX11_hour_58
        · replace h := ie_at h c_16
          refine lv_iload hx hb dX11_hour_34 (lv_at hl 4 rfl) ?_
          refine lv_iconst (v := 0) hx hb dX11_hour_36 (by decide) ?_
          refine lv_bipush (v := 9) hx hb dX11_hour_37 (by decide) ?_
          obtain ⟨r_17, σ_18, h_19, h⟩ := bd_at h
          refine q_afterI hw (q_runS C hw hl.1 (As := [.int p4, .int (0 : Int32), .int (9 : Int32)]) (rest := []) (m_X11_within l E p4 (0 : Int32) (9 : Int32) σ_14 r_17 σ_18 h_19) yq_X11_within kw_427 ⟨Nat.le_of_ble_eq_true rfl, Nat.le_of_ble_eq_true rfl⟩ rfl (Nat.le_of_ble_eq_true rfl) ⟨Nat.zero_le _, Nat.zero_le _⟩ dX11_hour_39) (fun H locs hw => ?_)
          refine lv_if_eq (tgt := 56) hx hb dX11_hour_42 (by decide) (fun c_20 => ?_) (fun c_20 => ?_)
          · replace h := it_at h c_20
            refine lv_bipush (v := (-2)) hx hb dX11_hour_56 (by decide) ?_
            obtain ⟨rfl, rfl⟩ := ret_at h
            exact q_iret C hw dX11_hour_58
          · replace h := ie_at h c_20
            refine lv_iload hx hb dX11_hour_45 (lv_at hl 5 rfl) ?_
            refine lv_iconst (v := 0) hx hb dX11_hour_47 (by decide) ?_
            refine lv_bipush (v := 9) hx hb dX11_hour_48 (by decide) ?_
            obtain ⟨r_21, σ_22, h_23, h⟩ := bd_at h
            refine q_afterI hw (q_runS C hw hl.1 (As := [.int p5, .int (0 : Int32), .int (9 : Int32)]) (rest := []) (m_X11_within l E p5 (0 : Int32) (9 : Int32) σ_18 r_21 σ_22 h_23) yq_X11_within kw_427 ⟨Nat.le_of_ble_eq_true rfl, Nat.le_of_ble_eq_true rfl⟩ rfl (Nat.le_of_ble_eq_true rfl) ⟨Nat.zero_le _, Nat.zero_le _⟩ dX11_hour_50) (fun H locs hw => ?_)
            refine lv_if_ne (tgt := 59) hx hb dX11_hour_53 (by decide) (fun c_24 => ?_) (fun c_24 => ?_)
            · replace h := ie_at h c_24
              refine lv_aload_n hx hb dX11_hour_59 rfl (lv_at hl 0 rfl) ?_
              refine gf_11_0 C hw tC_0 kw_401 dX11_hour_60 ?_
              refine lv_iload_n hx hb dX11_hour_63 rfl (lv_at hl 1 rfl) ?_
              obtain ⟨g_25, h⟩ := gd_at h
              refine q_aald C hw g_25 dX11_hour_64 ?_
              refine lv_iload_n hx hb dX11_hour_65 rfl (lv_at hl 2 rfl) ?_
              refine lv_iload_n hx hb dX11_hour_66 rfl (lv_at hl 3 rfl) ?_
              refine lv_iload hx hb dX11_hour_67 (lv_at hl 4 rfl) ?_
              refine lv_iload hx hb dX11_hour_69 (lv_at hl 5 rfl) ?_
              obtain ⟨r_26, σ_27, h_28, h⟩ := bd_at h
              refine q_afterI hw (q_runV C hw hl.1 (As := [.int p2, .int p3, .int p4, .int p5]) (rest := []) (m_X3_hourBy l E (mo p1.toNatClampNeg) (MO.of_ib g_25) p2 p3 p4 p5 σ_22 r_26 σ_27 h_28) yq_X3_hourBy (mo_T (MO.of_ib g_25)).1 rfl rfl kw_622 ⟨Nat.le_of_ble_eq_true rfl, Nat.le_of_ble_eq_true rfl⟩ rfl (Nat.le_of_ble_eq_true rfl) ⟨Nat.zero_le _, Nat.zero_le _⟩ dX11_hour_71) (fun H locs hw => ?_)
              refine lv_istore (lv' := [(7, .int r_26), (0, .ref (E.2.1 (0))), (1, .int p1), (2, .int p2), (3, .int p3), (4, .int p4), (5, .int p5), (6, .int p6)]) hx hb dX11_hour_74 hl (by decide) rfl (fun ls hl => ?_)
              refine lv_iload hx hb dX11_hour_76 (lv_at hl 7 rfl) ?_
              by_cases c_29 : p6 = (0 : Int32)
              · replace h := it_at h c_29
                refine lv_tableIn (off := 34) (tgt := 112) hx hb dX11_hour_78 (by rw [c_29]; decide) (by rw [c_29]; decide) (by rw [c_29]; rfl) (by decide) ?_
                refine lv_iload hx hb dX11_hour_112 (lv_at hl 0 rfl) ?_
                obtain ⟨r_30, σ_31, h_32, h⟩ := bd_at h
                refine q_afterI hw (q_runS C hw hl.1 (As := [.int r_26]) (rest := []) (m_X3_fastOf l E r_26 σ_27 r_30 σ_31 h_32) yq_X3_fastOf kw_642 ⟨Nat.le_of_ble_eq_true rfl, Nat.le_of_ble_eq_true rfl⟩ rfl (Nat.le_of_ble_eq_true rfl) ⟨Nat.zero_le _, Nat.zero_le _⟩ dX11_hour_114) (fun H locs hw => ?_)
                obtain ⟨rfl, rfl⟩ := ret_at h
                exact q_iret C hw dX11_hour_117
              replace h := ie_at h c_29
              by_cases c_33 : p6 = (1 : Int32)
              · replace h := it_at h c_33
                refine lv_tableIn (off := 40) (tgt := 118) hx hb dX11_hour_78 (by rw [c_33]; decide) (by rw [c_33]; decide) (by rw [c_33]; rfl) (by decide) ?_
                refine lv_iload hx hb dX11_hour_118 (lv_at hl 0 rfl) ?_
                obtain ⟨r_34, σ_35, h_36, h⟩ := bd_at h
                refine q_afterI hw (q_runS C hw hl.1 (As := [.int r_26]) (rest := []) (m_X3_gainOf l E r_26 σ_27 r_34 σ_35 h_36) yq_X3_gainOf kw_645 ⟨Nat.le_of_ble_eq_true rfl, Nat.le_of_ble_eq_true rfl⟩ rfl (Nat.le_of_ble_eq_true rfl) ⟨Nat.zero_le _, Nat.zero_le _⟩ dX11_hour_120) (fun H locs hw => ?_)
                obtain ⟨rfl, rfl⟩ := ret_at h
                exact q_iret C hw dX11_hour_123
              replace h := ie_at h c_33
              by_cases c_37 : p6 = (2 : Int32)
              · replace h := it_at h c_37
                refine lv_tableIn (off := 46) (tgt := 124) hx hb dX11_hour_78 (by rw [c_37]; decide) (by rw [c_37]; decide) (by rw [c_37]; rfl) (by decide) ?_
                refine lv_iload hx hb dX11_hour_124 (lv_at hl 0 rfl) ?_
                obtain ⟨r_38, σ_39, h_40, h⟩ := bd_at h
                refine q_afterI hw (q_runS C hw hl.1 (As := [.int r_26]) (rest := []) (m_X3_heatOf l E r_26 σ_27 r_38 σ_39 h_40) yq_X3_heatOf kw_654 ⟨Nat.le_of_ble_eq_true rfl, Nat.le_of_ble_eq_true rfl⟩ rfl (Nat.le_of_ble_eq_true rfl) ⟨Nat.zero_le _, Nat.zero_le _⟩ dX11_hour_126) (fun H locs hw => ?_)
                obtain ⟨rfl, rfl⟩ := ret_at h
                exact q_iret C hw dX11_hour_129
              replace h := ie_at h c_37
              by_cases c_41 : p6 = (3 : Int32)
              · replace h := it_at h c_41
                refine lv_tableIn (off := 52) (tgt := 130) hx hb dX11_hour_78 (by rw [c_41]; decide) (by rw [c_41]; decide) (by rw [c_41]; rfl) (by decide) ?_
                refine lv_iload hx hb dX11_hour_130 (lv_at hl 0 rfl) ?_
                obtain ⟨r_42, σ_43, h_44, h⟩ := bd_at h
                refine q_afterI hw (q_runS C hw hl.1 (As := [.int r_26]) (rest := []) (m_X3_dullOf l E r_26 σ_27 r_42 σ_43 h_44) yq_X3_dullOf kw_657 ⟨Nat.le_of_ble_eq_true rfl, Nat.le_of_ble_eq_true rfl⟩ rfl (Nat.le_of_ble_eq_true rfl) ⟨Nat.zero_le _, Nat.zero_le _⟩ dX11_hour_132) (fun H locs hw => ?_)
                obtain ⟨rfl, rfl⟩ := ret_at h
                exact q_iret C hw dX11_hour_135
              replace h := ie_at h c_41
              by_cases c_45 : p6 = (4 : Int32)
              · replace h := it_at h c_45
                refine lv_tableIn (off := 58) (tgt := 136) hx hb dX11_hour_78 (by rw [c_45]; decide) (by rw [c_45]; decide) (by rw [c_45]; rfl) (by decide) ?_
                refine lv_iload hx hb dX11_hour_136 (lv_at hl 0 rfl) ?_
                obtain ⟨r_46, σ_47, h_48, h⟩ := bd_at h
                refine q_afterI hw (q_runS C hw hl.1 (As := [.int r_26]) (rest := []) (m_X3_isBurnt l E r_26 σ_27 r_46 σ_47 h_48) yq_X3_isBurnt kw_660 ⟨Nat.le_of_ble_eq_true rfl, Nat.le_of_ble_eq_true rfl⟩ rfl (Nat.le_of_ble_eq_true rfl) ⟨Nat.zero_le _, Nat.zero_le _⟩ dX11_hour_138) (fun H locs hw => ?_)
                refine lv_if_eq (tgt := 148) hx hb dX11_hour_141 (by decide) (fun c_49 => ?_) (fun c_49 => ?_)
                · replace h := it_at h c_49
                  refine lv_iconst (v := 0) hx hb dX11_hour_148 (by decide) ?_
                  obtain ⟨rfl, rfl⟩ := ret_at h
                  exact q_iret C hw dX11_hour_149
                · replace h := ie_at h c_49
                  refine lv_iconst (v := 1) hx hb dX11_hour_144 (by decide) ?_
                  refine lv_goto (tgt := 149) hx hb dX11_hour_145 (by decide) ?_
                  obtain ⟨rfl, rfl⟩ := ret_at h
                  exact q_iret C hw dX11_hour_149
              replace h := ie_at h c_45
              refine lv_tableOut (tgt := 150) hx hb dX11_hour_78 (tsw_out (fun k h1 h2 => by
                rcases (show k = 0 ∨ k = 1 ∨ k = 2 ∨ k = 3 ∨ k = 4 by omega) with rfl | rfl | rfl | rfl | rfl
                · exact c_29
                · exact c_33
                · exact c_37
                · exact c_41
                · exact c_45)) (by decide) ?_
              refine lv_iload hx hb dX11_hour_150 (lv_at hl 0 rfl) ?_
              obtain ⟨r_50, σ_51, h_52, h⟩ := bd_at h
              refine q_afterI hw (q_runS C hw hl.1 (As := [.int r_26]) (rest := []) (m_X3_isAway l E r_26 σ_27 r_50 σ_51 h_52) yq_X3_isAway kw_663 ⟨Nat.le_of_ble_eq_true rfl, Nat.le_of_ble_eq_true rfl⟩ rfl (Nat.le_of_ble_eq_true rfl) ⟨Nat.zero_le _, Nat.zero_le _⟩ dX11_hour_152) (fun H locs hw => ?_)
              refine lv_if_eq (tgt := 162) hx hb dX11_hour_155 (by decide) (fun c_53 => ?_) (fun c_53 => ?_)
              · replace h := it_at h c_53
                refine lv_iconst (v := 0) hx hb dX11_hour_162 (by decide) ?_
                obtain ⟨rfl, rfl⟩ := ret_at h
                exact q_iret C hw dX11_hour_163
              · replace h := ie_at h c_53
                refine lv_iconst (v := 1) hx hb dX11_hour_158 (by decide) ?_
                refine lv_goto (tgt := 163) hx hb dX11_hour_159 (by decide) ?_
                obtain ⟨rfl, rfl⟩ := ret_at h
                exact q_iret C hw dX11_hour_163
            · replace h := it_at h c_24
              refine lv_bipush (v := (-2)) hx hb dX11_hour_56 (by decide) ?_
              obtain ⟨rfl, rfl⟩ := ret_at h
              exact q_iret C hw dX11_hour_58
      · replace h := it_at h c_12
        refine lv_iconst (v := (-1)) hx hb dX11_hour_25 (by decide) ?_
        obtain ⟨rfl, rfl⟩ := ret_at h
        exact q_iret C hw dX11_hour_26
def f_X11_image (σ : Mem) : Option (Int32 × Mem) :=
  bv (f_X8_copyFromb σ) fun σ_2 =>
  lt (sI σ_2 0 6 (1 : Int32)) fun σ_4 =>
  some (gI σ_4 21 0, σ_4)
set_option maxHeartbeats 4000000 in
set_option maxRecDepth 100000 in
theorem m_X11_image (l : Launch) (E : EV) (σ : Mem) (rr : Int32) (τ : Mem) (h : f_X11_image  σ = some (rr, τ)) : MI TC l E yX11_image cX11_image 1 (some .int) 3 102 [.ref (E.2.1 (0))] σ rr τ := by
  refine mt_start RX11 (by decide +kernel) rfl (Nat.le_of_ble_eq_true rfl) (fun p e s m args below meth c ls C hw hl => ?_)
  replace hl : lv_has ls 1 [(0, .ref (E.2.1 (0)))] := hl
  obtain ⟨hx, hb, hml, hown, hts, hK, hSt, hlk, hr⟩ := id C
  unfold f_X11_image at h
  refine lv_aload_n hx hb dX11_image_0 rfl (lv_at hl 0 rfl) ?_
  refine gf_11_2 C hw tC_0 kw_403 dX11_image_1 ?_
  refine lv_aload_n hx hb dX11_image_4 rfl (lv_at hl 0 rfl) ?_
  refine gf_11_1 C hw tC_0 kw_402 dX11_image_5 ?_
  obtain ⟨σ_2, h_3, h⟩ := bv_at h
  refine q_afterV hw (q_runV C hw hl.1 (As := [.ref (E.2.1 (2))]) (rest := []) (m_X8_copyFromb l E  σ σ_2 h_3) yq_X8_copyFrom tC_21 rfl rfl kw_970 ⟨Nat.le_of_ble_eq_true rfl, Nat.le_of_ble_eq_true rfl⟩ rfl (Nat.le_of_ble_eq_true rfl) ⟨Nat.zero_le _, Nat.zero_le _⟩ dX11_image_8) (fun H locs hw => ?_)
  refine lv_aload_n hx hb dX11_image_11 rfl (lv_at hl 0 rfl) ?_
  refine lv_iconst (v := 1) hx hb dX11_image_12 (by decide) ?_
  obtain ⟨σ_4, eσ_4, h⟩ := lt_at h
  refine pf_11_6 C hw tC_0 kw_407 (by decide) eσ_4 dX11_image_13 (fun H locs hw => ?_)
  refine lv_aload_n hx hb dX11_image_16 rfl (lv_at hl 0 rfl) ?_
  refine gf_11_2 C hw tC_0 kw_403 dX11_image_17 ?_
  refine gf_8_0 C hw tC_21 kw_242 dX11_image_20 ?_
  obtain ⟨rfl, rfl⟩ := ret_at h
  exact q_iret C hw dX11_image_23
def f_X11_isChance (p0 : Int32) (σ : Mem) : Option (Int32 × Mem) :=
  bd (f_X11_within p0 (0 : Int32) (1000 : Int32) σ) fun r_1 σ_2 =>
  gd (iz r_1) (some (r_1, σ_2))
set_option maxHeartbeats 4000000 in
set_option maxRecDepth 100000 in
theorem m_X11_isChance (l : Launch) (E : EV) (p0 : Int32) (σ : Mem) (rr : Int32) (τ : Mem) (h : f_X11_isChance p0 σ = some (rr, τ)) : MI TC l E yX11_isChance cX11_isChance 1 (some .boolean) 1 22 [.int p0] σ rr τ := by
  refine mt_start RX11 (by decide +kernel) rfl (Nat.le_of_ble_eq_true rfl) (fun p e s m args below meth c ls C hw hl => ?_)
  replace hl : lv_has ls 1 [(0, .int p0)] := hl
  obtain ⟨hx, hb, hml, hown, hts, hK, hSt, hlk, hr⟩ := id C
  unfold f_X11_isChance at h
  refine lv_iload_n hx hb dX11_isChance_0 rfl (lv_at hl 0 rfl) ?_
  refine lv_iconst (v := 0) hx hb dX11_isChance_1 (by decide) ?_
  refine lv_sipush (v := 1000) hx hb dX11_isChance_2 (by decide) ?_
  obtain ⟨r_1, σ_2, h_3, h⟩ := bd_at h
  refine q_afterI hw (q_runS C hw hl.1 (As := [.int p0, .int (0 : Int32), .int (1000 : Int32)]) (rest := []) (m_X11_within l E p0 (0 : Int32) (1000 : Int32) σ r_1 σ_2 h_3) yq_X11_within kw_427 ⟨Nat.le_of_ble_eq_true rfl, Nat.le_of_ble_eq_true rfl⟩ rfl (Nat.le_of_ble_eq_true rfl) ⟨Nat.zero_le _, Nat.zero_le _⟩ dX11_isChance_5) (fun H locs hw => ?_)
  obtain ⟨g_4, h⟩ := gd_at h
  obtain ⟨rfl, rfl⟩ := ret_at h
  exact q_zret C g_4 hw dX11_isChance_8
def f_X11_judged (p1 : Int32) (σ : Mem) : Option (Int32 × Mem) :=
  bd (f_X11_within p1 (0 : Int32) (3 : Int32) σ) fun r_1 σ_2 =>
  if r_1 = 0 then
    (some ((-1 : Int32), σ_2))
  else
    bd (f_X11_isLed σ_2) fun r_5 σ_6 =>
    if r_5 = 0 then
      (some ((-3 : Int32), σ_6))
    else
      if (gI σ_6 7 5) = 0 then
        (gd (ib (gI σ_6 7 0) 5) <|
        bd (f_X1_judge (mo (gI σ_6 7 0).toNatClampNeg) (gI σ_6 7 2) (gI σ_6 7 3) p1 σ_6) fun r_11 σ_12 =>
        some (r_11, σ_12))
      else
        some ((-3 : Int32), σ_6)
set_option maxHeartbeats 4000000 in
set_option maxRecDepth 100000 in
theorem m_X11_judged (l : Launch) (E : EV) (p1 : Int32) (σ : Mem) (rr : Int32) (τ : Mem) (h : f_X11_judged p1 σ = some (rr, τ)) : MI TC l E yX11_judged cX11_judged 2 (some .int) 5 139 [.ref (E.2.1 (0)), .int p1] σ rr τ := by
  refine mt_start RX11 (by decide +kernel) rfl (Nat.le_of_ble_eq_true rfl) (fun p e s m args below meth c ls C hw hl => ?_)
  replace hl : lv_has ls 2 [(0, .ref (E.2.1 (0))), (1, .int p1)] := hl
  obtain ⟨hx, hb, hml, hown, hts, hK, hSt, hlk, hr⟩ := id C
  unfold f_X11_judged at h
  refine lv_iload_n hx hb dX11_judged_0 rfl (lv_at hl 1 rfl) ?_
  refine lv_iconst (v := 0) hx hb dX11_judged_1 (by decide) ?_
  refine lv_iconst (v := 3) hx hb dX11_judged_2 (by decide) ?_
  obtain ⟨r_1, σ_2, h_3, h⟩ := bd_at h
  refine q_afterI hw (q_runS C hw hl.1 (As := [.int p1, .int (0 : Int32), .int (3 : Int32)]) (rest := []) (m_X11_within l E p1 (0 : Int32) (3 : Int32) σ r_1 σ_2 h_3) yq_X11_within kw_427 ⟨Nat.le_of_ble_eq_true rfl, Nat.le_of_ble_eq_true rfl⟩ rfl (Nat.le_of_ble_eq_true rfl) ⟨Nat.zero_le _, Nat.zero_le _⟩ dX11_judged_3) (fun H locs hw => ?_)
  refine lv_if_ne (tgt := 11) hx hb dX11_judged_6 (by decide) (fun c_4 => ?_) (fun c_4 => ?_)
  · replace h := ie_at h c_4
    refine lv_aload_n hx hb dX11_judged_11 rfl (lv_at hl 0 rfl) ?_
    obtain ⟨r_5, σ_6, h_7, h⟩ := bd_at h
    refine q_afterI hw (q_runV C hw hl.1 (As := []) (rest := []) (m_X11_isLed l E  σ_2 r_5 σ_6 h_7) yq_X11_isLed tC_0 rfl rfl kw_699 ⟨Nat.le_of_ble_eq_true rfl, Nat.le_of_ble_eq_true rfl⟩ rfl (Nat.le_of_ble_eq_true rfl) ⟨Nat.zero_le _, Nat.zero_le _⟩ dX11_judged_12) (fun H locs hw => ?_)
    refine lv_if_eq (tgt := 31) hx hb dX11_judged_15 (by decide) (fun c_8 => ?_) (fun c_8 => ?_)
    · replace h := it_at h c_8
      refine lv_bipush (v := (-3)) hx hb dX11_judged_31 (by decide) ?_
      obtain ⟨rfl, rfl⟩ := ret_at h
      exact q_iret C hw dX11_judged_33
    · replace h := ie_at h c_8
      refine lv_aload_n hx hb dX11_judged_18 rfl (lv_at hl 0 rfl) ?_
      refine gf_11_1 C hw tC_0 kw_402 dX11_judged_19 ?_
      refine gf_8_3 C hw tC_2 kw_248 (c1 := 7) rfl dX11_judged_22 ?_
      refine gf_2_5 C hw tC_7 kw_157 dX11_judged_25 ?_
      refine lv_if_eq (tgt := 34) hx hb dX11_judged_28 (by decide) (fun c_9 => ?_) (fun c_9 => ?_)
      · replace h := it_at h c_9
        refine lv_aload_n hx hb dX11_judged_34 rfl (lv_at hl 0 rfl) ?_
        refine gf_11_1 C hw tC_0 kw_402 dX11_judged_35 ?_
        refine gf_8_5 C hw tC_2 kw_252 (c1 := 13) rfl dX11_judged_38 ?_
        refine lv_aload_n hx hb dX11_judged_41 rfl (lv_at hl 0 rfl) ?_
        refine gf_11_0 C hw tC_0 kw_401 dX11_judged_42 ?_
        refine lv_aload_n hx hb dX11_judged_45 rfl (lv_at hl 0 rfl) ?_
        refine gf_11_1 C hw tC_0 kw_402 dX11_judged_46 ?_
        refine gf_8_3 C hw tC_2 kw_248 (c1 := 7) rfl dX11_judged_49 ?_
        refine gf_2_0 C hw tC_7 kw_147 dX11_judged_52 ?_
        obtain ⟨g_10, h⟩ := gd_at h
        refine q_aald C hw g_10 dX11_judged_55 ?_
        refine lv_aload_n hx hb dX11_judged_56 rfl (lv_at hl 0 rfl) ?_
        refine gf_11_1 C hw tC_0 kw_402 dX11_judged_57 ?_
        refine gf_8_3 C hw tC_2 kw_248 (c1 := 7) rfl dX11_judged_60 ?_
        refine gf_2_2 C hw tC_7 kw_151 dX11_judged_63 ?_
        refine lv_aload_n hx hb dX11_judged_66 rfl (lv_at hl 0 rfl) ?_
        refine gf_11_1 C hw tC_0 kw_402 dX11_judged_67 ?_
        refine gf_8_3 C hw tC_2 kw_248 (c1 := 7) rfl dX11_judged_70 ?_
        refine gf_2_3 C hw tC_7 kw_153 dX11_judged_73 ?_
        refine lv_iload_n hx hb dX11_judged_76 rfl (lv_at hl 1 rfl) ?_
        obtain ⟨r_11, σ_12, h_13, h⟩ := bd_at h
        refine q_afterI hw (q_runV C hw hl.1 (As := [.ref (E.2.1 (mo (gI σ_6 7 0).toNatClampNeg)), .int (gI σ_6 7 2), .int (gI σ_6 7 3), .int p1]) (rest := []) (m_X1_judge l E (mo (gI σ_6 7 0).toNatClampNeg) (MO.of_ib g_10) (gI σ_6 7 2) (gI σ_6 7 3) p1 σ_6 r_11 σ_12 h_13) yq_X1_judge tC_13 rfl rfl kw_854 ⟨Nat.le_of_ble_eq_true rfl, Nat.le_of_ble_eq_true rfl⟩ rfl (Nat.le_of_ble_eq_true rfl) ⟨Nat.zero_le _, Nat.zero_le _⟩ dX11_judged_77) (fun H locs hw => ?_)
        obtain ⟨rfl, rfl⟩ := ret_at h
        exact q_iret C hw dX11_judged_80
      · replace h := ie_at h c_9
        refine lv_bipush (v := (-3)) hx hb dX11_judged_31 (by decide) ?_
        obtain ⟨rfl, rfl⟩ := ret_at h
        exact q_iret C hw dX11_judged_33
  · replace h := it_at h c_4
    refine lv_iconst (v := (-1)) hx hb dX11_judged_9 (by decide) ?_
    obtain ⟨rfl, rfl⟩ := ret_at h
    exact q_iret C hw dX11_judged_10
def f_X11_late (p1 : Int32) (σ : Mem) : Option (Int32 × Mem) :=
  bd (f_X11_within p1 (0 : Int32) (((1 : Int32) <<< ((gI σ 16 4) &&& 31)) - (1 : Int32)) σ) fun r_1 σ_2 =>
  if r_1 = 0 then
    (some ((-2 : Int32), σ_2))
  else
    bd (f_X4_lateOf p1 σ_2) fun r_5 σ_6 =>
    some (r_5, σ_6)
set_option maxHeartbeats 4000000 in
set_option maxRecDepth 100000 in
theorem m_X11_late (l : Launch) (E : EV) (p1 : Int32) (σ : Mem) (rr : Int32) (τ : Mem) (h : f_X11_late p1 σ = some (rr, τ)) : MI TC l E yX11_late cX11_late 2 (some .int) 1 25 [.ref (E.2.1 (0)), .int p1] σ rr τ := by
  refine mt_start RX11 (by decide +kernel) rfl (Nat.le_of_ble_eq_true rfl) (fun p e s m args below meth c ls C hw hl => ?_)
  replace hl : lv_has ls 2 [(0, .ref (E.2.1 (0))), (1, .int p1)] := hl
  obtain ⟨hx, hb, hml, hown, hts, hK, hSt, hlk, hr⟩ := id C
  unfold f_X11_late at h
  refine lv_iload_n hx hb dX11_late_0 rfl (lv_at hl 1 rfl) ?_
  refine lv_iconst (v := 0) hx hb dX11_late_1 (by decide) ?_
  refine lv_iconst (v := 1) hx hb dX11_late_2 (by decide) ?_
  refine lv_aload_n hx hb dX11_late_3 rfl (lv_at hl 0 rfl) ?_
  refine gf_11_1 C hw tC_0 kw_402 dX11_late_4 ?_
  refine gf_8_6 C hw tC_2 kw_254 (c1 := 16) rfl dX11_late_7 ?_
  refine gf_4_4 C hw tC_16 kw_229 dX11_late_10 ?_
  refine lv_ishl hx hb dX11_late_13 ?_
  refine lv_iconst (v := 1) hx hb dX11_late_14 (by decide) ?_
  refine lv_isub hx hb dX11_late_15 ?_
  obtain ⟨r_1, σ_2, h_3, h⟩ := bd_at h
  refine q_afterI hw (q_runS C hw hl.1 (As := [.int p1, .int (0 : Int32), .int (((1 : Int32) <<< ((gI σ 16 4) &&& 31)) - (1 : Int32))]) (rest := []) (m_X11_within l E p1 (0 : Int32) (((1 : Int32) <<< ((gI σ 16 4) &&& 31)) - (1 : Int32)) σ r_1 σ_2 h_3) yq_X11_within kw_427 ⟨Nat.le_of_ble_eq_true rfl, Nat.le_of_ble_eq_true rfl⟩ rfl (Nat.le_of_ble_eq_true rfl) ⟨Nat.zero_le _, Nat.zero_le _⟩ dX11_late_16) (fun H locs hw => ?_)
  refine lv_if_ne (tgt := 25) hx hb dX11_late_19 (by decide) (fun c_4 => ?_) (fun c_4 => ?_)
  · replace h := ie_at h c_4
    refine lv_aload_n hx hb dX11_late_25 rfl (lv_at hl 0 rfl) ?_
    refine gf_11_1 C hw tC_0 kw_402 dX11_late_26 ?_
    refine gf_8_6 C hw tC_2 kw_254 (c1 := 16) rfl dX11_late_29 ?_
    refine lv_iload_n hx hb dX11_late_32 rfl (lv_at hl 1 rfl) ?_
    obtain ⟨r_5, σ_6, h_7, h⟩ := bd_at h
    refine q_afterI hw (q_runV C hw hl.1 (As := [.int p1]) (rest := []) (m_X4_lateOf l E p1 σ_2 r_5 σ_6 h_7) yq_X4_lateOf tC_16 rfl rfl kw_896 ⟨Nat.le_of_ble_eq_true rfl, Nat.le_of_ble_eq_true rfl⟩ rfl (Nat.le_of_ble_eq_true rfl) ⟨Nat.zero_le _, Nat.zero_le _⟩ dX11_late_33) (fun H locs hw => ?_)
    obtain ⟨rfl, rfl⟩ := ret_at h
    exact q_iret C hw dX11_late_36
  · replace h := it_at h c_4
    refine lv_bipush (v := (-2)) hx hb dX11_late_22 (by decide) ?_
    obtain ⟨rfl, rfl⟩ := ret_at h
    exact q_iret C hw dX11_late_24
def f_X11_lead (p1 : Int32) (σ : Mem) : Option (Int32 × Mem) :=
  bd (f_X11_isMill p1 σ) fun r_1 σ_2 =>
  if r_1 = 0 then
    (some ((-1 : Int32), σ_2))
  else
    bv (f_X2_begin p1 σ_2) fun σ_6 =>
    bv (f_X5_forget σ_6) fun σ_9 =>
    some ((1 : Int32), σ_9)
set_option maxHeartbeats 4000000 in
set_option maxRecDepth 100000 in
theorem m_X11_lead (l : Launch) (E : EV) (p1 : Int32) (σ : Mem) (rr : Int32) (τ : Mem) (h : f_X11_lead p1 σ = some (rr, τ)) : MI TC l E yX11_lead cX11_lead 2 (some .int) 2 43 [.ref (E.2.1 (0)), .int p1] σ rr τ := by
  refine mt_start RX11 (by decide +kernel) rfl (Nat.le_of_ble_eq_true rfl) (fun p e s m args below meth c ls C hw hl => ?_)
  replace hl : lv_has ls 2 [(0, .ref (E.2.1 (0))), (1, .int p1)] := hl
  obtain ⟨hx, hb, hml, hown, hts, hK, hSt, hlk, hr⟩ := id C
  unfold f_X11_lead at h
  refine lv_aload_n hx hb dX11_lead_0 rfl (lv_at hl 0 rfl) ?_
  refine lv_iload_n hx hb dX11_lead_1 rfl (lv_at hl 1 rfl) ?_
  obtain ⟨r_1, σ_2, h_3, h⟩ := bd_at h
  refine q_afterI hw (q_runV C hw hl.1 (As := [.int p1]) (rest := []) (m_X11_isMill l E p1 σ r_1 σ_2 h_3) yq_X11_isMill tC_0 rfl rfl kw_612 ⟨Nat.le_of_ble_eq_true rfl, Nat.le_of_ble_eq_true rfl⟩ rfl (Nat.le_of_ble_eq_true rfl) ⟨Nat.zero_le _, Nat.zero_le _⟩ dX11_lead_2) (fun H locs hw => ?_)
  refine lv_if_ne (tgt := 10) hx hb dX11_lead_5 (by decide) (fun c_4 => ?_) (fun c_4 => ?_)
  · replace h := ie_at h c_4
    refine lv_aload_n hx hb dX11_lead_10 rfl (lv_at hl 0 rfl) ?_
    refine gf_11_1 C hw tC_0 kw_402 dX11_lead_11 ?_
    refine gf_8_3 C hw tC_2 kw_248 (c1 := 7) rfl dX11_lead_14 ?_
    refine lv_iload_n hx hb dX11_lead_17 rfl (lv_at hl 1 rfl) ?_
    obtain ⟨σ_6, h_7, h⟩ := bv_at h
    refine q_afterV hw (q_runV C hw hl.1 (As := [.int p1]) (rest := []) (m_X2_begin l E p1 σ_2 σ_6 h_7) yq_X2_begin tC_7 rfl rfl kw_691 ⟨Nat.le_of_ble_eq_true rfl, Nat.le_of_ble_eq_true rfl⟩ rfl (Nat.le_of_ble_eq_true rfl) ⟨Nat.zero_le _, Nat.zero_le _⟩ dX11_lead_18) (fun H locs hw => ?_)
    refine lv_aload_n hx hb dX11_lead_21 rfl (lv_at hl 0 rfl) ?_
    refine gf_11_4 C hw tC_0 kw_405 dX11_lead_22 ?_
    obtain ⟨σ_9, h_10, h⟩ := bv_at h
    refine q_afterV hw (q_runV C hw hl.1 (As := []) (rest := []) (m_X5_forget l E  σ_6 σ_9 h_10) yq_X5_forget tC_41 rfl rfl kw_675 ⟨Nat.le_of_ble_eq_true rfl, Nat.le_of_ble_eq_true rfl⟩ rfl (Nat.le_of_ble_eq_true rfl) ⟨Nat.zero_le _, Nat.zero_le _⟩ dX11_lead_25) (fun H locs hw => ?_)
    refine lv_iconst (v := 1) hx hb dX11_lead_28 (by decide) ?_
    obtain ⟨rfl, rfl⟩ := ret_at h
    exact q_iret C hw dX11_lead_29
  · replace h := it_at h c_4
    refine lv_iconst (v := (-1)) hx hb dX11_lead_8 (by decide) ?_
    obtain ⟨rfl, rfl⟩ := ret_at h
    exact q_iret C hw dX11_lead_9
def f_X11_led (p1 : Int32) (σ : Mem) : Option (Int32 × Mem) :=
  bd (f_X11_within p1 (0 : Int32) (5 : Int32) σ) fun r_1 σ_2 =>
  if r_1 = 0 then
    (some ((-1 : Int32), σ_2))
  else
    bd (f_X11_isLed σ_2) fun r_5 σ_6 =>
    if r_5 = 0 then
      (some ((-3 : Int32), σ_6))
    else
      if p1 = (0 : Int32) then
        (some (gI σ_6 7 0, σ_6))
      else
      if p1 = (1 : Int32) then
        (some (gI σ_6 7 1, σ_6))
      else
      if p1 = (2 : Int32) then
        (some (gI σ_6 7 2, σ_6))
      else
      if p1 = (3 : Int32) then
        (some (gI σ_6 7 3, σ_6))
      else
      if p1 = (4 : Int32) then
        (some (gI σ_6 7 4, σ_6))
      else
      if (gI σ_6 7 5) = 0 then
        (some ((0 : Int32), σ_6))
      else
        some ((1 : Int32), σ_6)
set_option maxHeartbeats 4000000 in
set_option maxRecDepth 100000 in
theorem m_X11_led (l : Launch) (E : EV) (p1 : Int32) (σ : Mem) (rr : Int32) (τ : Mem) (h : f_X11_led p1 σ = some (rr, τ)) : MI TC l E yX11_led cX11_led 2 (some .int) 3 63 [.ref (E.2.1 (0)), .int p1] σ rr τ := by
  refine mt_start RX11 (by decide +kernel) rfl (Nat.le_of_ble_eq_true rfl) (fun p e s m args below meth c ls C hw hl => ?_)
  replace hl : lv_has ls 2 [(0, .ref (E.2.1 (0))), (1, .int p1)] := hl
  obtain ⟨hx, hb, hml, hown, hts, hK, hSt, hlk, hr⟩ := id C
  unfold f_X11_led at h
  refine lv_iload_n hx hb dX11_led_0 rfl (lv_at hl 1 rfl) ?_
  refine lv_iconst (v := 0) hx hb dX11_led_1 (by decide) ?_
  refine lv_iconst (v := 5) hx hb dX11_led_2 (by decide) ?_
  obtain ⟨r_1, σ_2, h_3, h⟩ := bd_at h
  refine q_afterI hw (q_runS C hw hl.1 (As := [.int p1, .int (0 : Int32), .int (5 : Int32)]) (rest := []) (m_X11_within l E p1 (0 : Int32) (5 : Int32) σ r_1 σ_2 h_3) yq_X11_within kw_427 ⟨Nat.le_of_ble_eq_true rfl, Nat.le_of_ble_eq_true rfl⟩ rfl (Nat.le_of_ble_eq_true rfl) ⟨Nat.zero_le _, Nat.zero_le _⟩ dX11_led_3) (fun H locs hw => ?_)
  refine lv_if_ne (tgt := 11) hx hb dX11_led_6 (by decide) (fun c_4 => ?_) (fun c_4 => ?_)
  · replace h := ie_at h c_4
    refine lv_aload_n hx hb dX11_led_11 rfl (lv_at hl 0 rfl) ?_
    obtain ⟨r_5, σ_6, h_7, h⟩ := bd_at h
    refine q_afterI hw (q_runV C hw hl.1 (As := []) (rest := []) (m_X11_isLed l E  σ_2 r_5 σ_6 h_7) yq_X11_isLed tC_0 rfl rfl kw_699 ⟨Nat.le_of_ble_eq_true rfl, Nat.le_of_ble_eq_true rfl⟩ rfl (Nat.le_of_ble_eq_true rfl) ⟨Nat.zero_le _, Nat.zero_le _⟩ dX11_led_12) (fun H locs hw => ?_)
    refine lv_if_ne (tgt := 21) hx hb dX11_led_15 (by decide) (fun c_8 => ?_) (fun c_8 => ?_)
    · replace h := ie_at h c_8
      refine lv_iload_n hx hb dX11_led_21 rfl (lv_at hl 1 rfl) ?_
      by_cases c_9 : p1 = (0 : Int32)
      · replace h := it_at h c_9
        refine lv_tableIn (off := 34) (tgt := 56) hx hb dX11_led_22 (by rw [c_9]; decide) (by rw [c_9]; decide) (by rw [c_9]; rfl) (by decide) ?_
        refine lv_aload_n hx hb dX11_led_56 rfl (lv_at hl 0 rfl) ?_
        refine gf_11_1 C hw tC_0 kw_402 dX11_led_57 ?_
        refine gf_8_3 C hw tC_2 kw_248 (c1 := 7) rfl dX11_led_60 ?_
        refine gf_2_0 C hw tC_7 kw_147 dX11_led_63 ?_
        obtain ⟨rfl, rfl⟩ := ret_at h
        exact q_iret C hw dX11_led_66
      replace h := ie_at h c_9
      by_cases c_10 : p1 = (1 : Int32)
      · replace h := it_at h c_10
        refine lv_tableIn (off := 45) (tgt := 67) hx hb dX11_led_22 (by rw [c_10]; decide) (by rw [c_10]; decide) (by rw [c_10]; rfl) (by decide) ?_
        refine lv_aload_n hx hb dX11_led_67 rfl (lv_at hl 0 rfl) ?_
        refine gf_11_1 C hw tC_0 kw_402 dX11_led_68 ?_
        refine gf_8_3 C hw tC_2 kw_248 (c1 := 7) rfl dX11_led_71 ?_
        refine gf_2_1 C hw tC_7 kw_149 dX11_led_74 ?_
        obtain ⟨rfl, rfl⟩ := ret_at h
        exact q_iret C hw dX11_led_77
      replace h := ie_at h c_10
      by_cases c_11 : p1 = (2 : Int32)
      · replace h := it_at h c_11
        refine lv_tableIn (off := 56) (tgt := 78) hx hb dX11_led_22 (by rw [c_11]; decide) (by rw [c_11]; decide) (by rw [c_11]; rfl) (by decide) ?_
        refine lv_aload_n hx hb dX11_led_78 rfl (lv_at hl 0 rfl) ?_
        refine gf_11_1 C hw tC_0 kw_402 dX11_led_79 ?_
        refine gf_8_3 C hw tC_2 kw_248 (c1 := 7) rfl dX11_led_82 ?_
        refine gf_2_2 C hw tC_7 kw_151 dX11_led_85 ?_
        obtain ⟨rfl, rfl⟩ := ret_at h
        exact q_iret C hw dX11_led_88
      replace h := ie_at h c_11
      by_cases c_12 : p1 = (3 : Int32)
      · replace h := it_at h c_12
        refine lv_tableIn (off := 67) (tgt := 89) hx hb dX11_led_22 (by rw [c_12]; decide) (by rw [c_12]; decide) (by rw [c_12]; rfl) (by decide) ?_
        refine lv_aload_n hx hb dX11_led_89 rfl (lv_at hl 0 rfl) ?_
        refine gf_11_1 C hw tC_0 kw_402 dX11_led_90 ?_
        refine gf_8_3 C hw tC_2 kw_248 (c1 := 7) rfl dX11_led_93 ?_
        refine gf_2_3 C hw tC_7 kw_153 dX11_led_96 ?_
        obtain ⟨rfl, rfl⟩ := ret_at h
        exact q_iret C hw dX11_led_99
      replace h := ie_at h c_12
      by_cases c_13 : p1 = (4 : Int32)
      · replace h := it_at h c_13
        refine lv_tableIn (off := 78) (tgt := 100) hx hb dX11_led_22 (by rw [c_13]; decide) (by rw [c_13]; decide) (by rw [c_13]; rfl) (by decide) ?_
        refine lv_aload_n hx hb dX11_led_100 rfl (lv_at hl 0 rfl) ?_
        refine gf_11_1 C hw tC_0 kw_402 dX11_led_101 ?_
        refine gf_8_3 C hw tC_2 kw_248 (c1 := 7) rfl dX11_led_104 ?_
        refine gf_2_4 C hw tC_7 kw_155 dX11_led_107 ?_
        obtain ⟨rfl, rfl⟩ := ret_at h
        exact q_iret C hw dX11_led_110
      replace h := ie_at h c_13
      refine lv_tableOut (tgt := 111) hx hb dX11_led_22 (tsw_out (fun k h1 h2 => by
        rcases (show k = 0 ∨ k = 1 ∨ k = 2 ∨ k = 3 ∨ k = 4 by omega) with rfl | rfl | rfl | rfl | rfl
        · exact c_9
        · exact c_10
        · exact c_11
        · exact c_12
        · exact c_13)) (by decide) ?_
      refine lv_aload_n hx hb dX11_led_111 rfl (lv_at hl 0 rfl) ?_
      refine gf_11_1 C hw tC_0 kw_402 dX11_led_112 ?_
      refine gf_8_3 C hw tC_2 kw_248 (c1 := 7) rfl dX11_led_115 ?_
      refine gf_2_5 C hw tC_7 kw_157 dX11_led_118 ?_
      refine lv_if_eq (tgt := 128) hx hb dX11_led_121 (by decide) (fun c_14 => ?_) (fun c_14 => ?_)
      · replace h := it_at h c_14
        refine lv_iconst (v := 0) hx hb dX11_led_128 (by decide) ?_
        obtain ⟨rfl, rfl⟩ := ret_at h
        exact q_iret C hw dX11_led_129
      · replace h := ie_at h c_14
        refine lv_iconst (v := 1) hx hb dX11_led_124 (by decide) ?_
        refine lv_goto (tgt := 129) hx hb dX11_led_125 (by decide) ?_
        obtain ⟨rfl, rfl⟩ := ret_at h
        exact q_iret C hw dX11_led_129
    · replace h := it_at h c_8
      refine lv_bipush (v := (-3)) hx hb dX11_led_18 (by decide) ?_
      obtain ⟨rfl, rfl⟩ := ret_at h
      exact q_iret C hw dX11_led_20
  · replace h := it_at h c_4
    refine lv_iconst (v := (-1)) hx hb dX11_led_9 (by decide) ?_
    obtain ⟨rfl, rfl⟩ := ret_at h
    exact q_iret C hw dX11_led_10
def f_X11_mean (p1 : Int32) (p2 : Int32) (p3 : Int32) (p4 : Int32) (σ : Mem) : Option (Int64 × Mem) :=
  bd (f_X11_isRule p1 σ) fun r_1 σ_2 =>
  if r_1 = 0 then
    (some ((-9223372036854775808 : Int64), σ_2))
  else
    bd (f_X11_within p2 (1 : Int32) (6 : Int32) σ_2) fun r_5 σ_6 =>
    if r_5 = 0 then
      (some ((-9223372036854775808 : Int64), σ_6))
    else
      bd (f_X11_isWind p3 σ_6) fun r_9 σ_10 =>
      if r_9 = 0 then
        (some ((-9223372036854775808 : Int64), σ_10))
      else
        bd (f_X11_within p4 (0 : Int32) (1 : Int32) σ_10) fun r_13 σ_14 =>
        if r_13 = 0 then
          (some ((-9223372036854775808 : Int64), σ_14))
        else
          bd (f_X11_isLed σ_14) fun r_17 σ_18 =>
          if r_17 = 0 then
            (some ((-9223372036854775808 : Int64), σ_18))
          else
            if (gI σ_18 7 5) = 0 then
              (gd (ib (gI σ_18 7 0) 5) <|
              bv (f_X5_begin (mo (gI σ_18 7 0).toNatClampNeg) σ_18) fun σ_24 =>
              bv (f_X5_followRule p1 σ_24) fun σ_27 =>
              if p4 = 0 then
                (bd (f_X5_meanFor p2 p3 (gI σ_27 7 2) (gI σ_27 7 3) σ_27) fun r_33 σ_34 =>
                some (r_33.toInt64, σ_34))
              else
                bd (f_X5_awayFor p2 p3 (gI σ_27 7 2) (gI σ_27 7 3) σ_27) fun r_30 σ_31 =>
                some (r_30.toInt64, σ_31))
            else
              some ((0 : Int64), σ_18)
set_option maxHeartbeats 4000000 in
set_option maxRecDepth 100000 in
theorem m_X11_mean (l : Launch) (E : EV) (p1 : Int32) (p2 : Int32) (p3 : Int32) (p4 : Int32) (σ : Mem) (rr : Int64) (τ : Mem) (h : f_X11_mean p1 p2 p3 p4 σ = some (rr, τ)) : ML TC l E yX11_mean cX11_mean 5 (some .long) 234 8963 [.ref (E.2.1 (0)), .int p1, .int p2, .int p3, .int p4] σ rr τ := by
  refine mt_start RX11 (by decide +kernel) rfl (Nat.le_of_ble_eq_true rfl) (fun p e s m args below meth c ls C hw hl => ?_)
  replace hl : lv_has ls 5 [(0, .ref (E.2.1 (0))), (1, .int p1), (2, .int p2), (3, .int p3), (4, .int p4)] := hl
  obtain ⟨hx, hb, hml, hown, hts, hK, hSt, hlk, hr⟩ := id C
  unfold f_X11_mean at h
  refine lv_aload_n hx hb dX11_mean_0 rfl (lv_at hl 0 rfl) ?_
  refine lv_iload_n hx hb dX11_mean_1 rfl (lv_at hl 1 rfl) ?_
  obtain ⟨r_1, σ_2, h_3, h⟩ := bd_at h
  refine q_afterI hw (q_runV C hw hl.1 (As := [.int p1]) (rest := []) (m_X11_isRule l E p1 σ r_1 σ_2 h_3) yq_X11_isRule tC_0 rfl rfl kw_729 ⟨Nat.le_of_ble_eq_true rfl, Nat.le_of_ble_eq_true rfl⟩ rfl (Nat.le_of_ble_eq_true rfl) ⟨Nat.zero_le _, Nat.zero_le _⟩ dX11_mean_2) (fun H locs hw => ?_)
  refine lv_if_eq (tgt := 25) hx hb dX11_mean_5 (by decide) (fun c_4 => ?_) (fun c_4 => ?_)
  · replace h := it_at h c_4
    refine lv_ldc2 hx hb hown (hts _ kw_790) dX11_mean_25 ?_
    obtain ⟨rfl, rfl⟩ := ret_at h
    exact q_lret C hw dX11_mean_28
  · replace h := ie_at h c_4
    refine lv_iload_n hx hb dX11_mean_8 rfl (lv_at hl 2 rfl) ?_
    refine lv_iconst (v := 1) hx hb dX11_mean_9 (by decide) ?_
    refine lv_bipush (v := 6) hx hb dX11_mean_10 (by decide) ?_
    obtain ⟨r_5, σ_6, h_7, h⟩ := bd_at h
    refine q_afterI hw (q_runS C hw hl.1 (As := [.int p2, .int (1 : Int32), .int (6 : Int32)]) (rest := []) (m_X11_within l E p2 (1 : Int32) (6 : Int32) σ_2 r_5 σ_6 h_7) yq_X11_within kw_427 ⟨Nat.le_of_ble_eq_true rfl, Nat.le_of_ble_eq_true rfl⟩ rfl (Nat.le_of_ble_eq_true rfl) ⟨Nat.zero_le _, Nat.zero_le _⟩ dX11_mean_12) (fun H locs hw => ?_)
    refine lv_if_eq (tgt := 25) hx hb dX11_mean_15 (by decide) (fun c_8 => ?_) (fun c_8 => ?_)
    · replace h := it_at h c_8
      refine lv_ldc2 hx hb hown (hts _ kw_790) dX11_mean_25 ?_
      obtain ⟨rfl, rfl⟩ := ret_at h
      exact q_lret C hw dX11_mean_28
    · replace h := ie_at h c_8
      refine lv_iload_n hx hb dX11_mean_18 rfl (lv_at hl 3 rfl) ?_
      obtain ⟨r_9, σ_10, h_11, h⟩ := bd_at h
      refine q_afterI hw (q_runS C hw hl.1 (As := [.int p3]) (rest := []) (m_X11_isWind l E p3 σ_6 r_9 σ_10 h_11) yq_X11_isWind kw_616 ⟨Nat.le_of_ble_eq_true rfl, Nat.le_of_ble_eq_true rfl⟩ rfl (Nat.le_of_ble_eq_true rfl) ⟨Nat.zero_le _, Nat.zero_le _⟩ dX11_mean_19) (fun H locs hw => ?_)
      refine lv_if_ne (tgt := 29) hx hb dX11_mean_22 (by decide) (fun c_12 => ?_) (fun c_12 => ?_)
      · replace h := ie_at h c_12
        refine lv_iload hx hb dX11_mean_29 (lv_at hl 4 rfl) ?_
        refine lv_iconst (v := 0) hx hb dX11_mean_31 (by decide) ?_
        refine lv_iconst (v := 1) hx hb dX11_mean_32 (by decide) ?_
        obtain ⟨r_13, σ_14, h_15, h⟩ := bd_at h
        refine q_afterI hw (q_runS C hw hl.1 (As := [.int p4, .int (0 : Int32), .int (1 : Int32)]) (rest := []) (m_X11_within l E p4 (0 : Int32) (1 : Int32) σ_10 r_13 σ_14 h_15) yq_X11_within kw_427 ⟨Nat.le_of_ble_eq_true rfl, Nat.le_of_ble_eq_true rfl⟩ rfl (Nat.le_of_ble_eq_true rfl) ⟨Nat.zero_le _, Nat.zero_le _⟩ dX11_mean_33) (fun H locs hw => ?_)
        refine lv_if_eq (tgt := 46) hx hb dX11_mean_36 (by decide) (fun c_16 => ?_) (fun c_16 => ?_)
        · replace h := it_at h c_16
          refine lv_ldc2 hx hb hown (hts _ kw_790) dX11_mean_46 ?_
          obtain ⟨rfl, rfl⟩ := ret_at h
          exact q_lret C hw dX11_mean_49
        · replace h := ie_at h c_16
          refine lv_aload_n hx hb dX11_mean_39 rfl (lv_at hl 0 rfl) ?_
          obtain ⟨r_17, σ_18, h_19, h⟩ := bd_at h
          refine q_afterI hw (q_runV C hw hl.1 (As := []) (rest := []) (m_X11_isLed l E  σ_14 r_17 σ_18 h_19) yq_X11_isLed tC_0 rfl rfl kw_699 ⟨Nat.le_of_ble_eq_true rfl, Nat.le_of_ble_eq_true rfl⟩ rfl (Nat.le_of_ble_eq_true rfl) ⟨Nat.zero_le _, Nat.zero_le _⟩ dX11_mean_40) (fun H locs hw => ?_)
          refine lv_if_ne (tgt := 50) hx hb dX11_mean_43 (by decide) (fun c_20 => ?_) (fun c_20 => ?_)
          · replace h := ie_at h c_20
            refine lv_aload_n hx hb dX11_mean_50 rfl (lv_at hl 0 rfl) ?_
            refine gf_11_1 C hw tC_0 kw_402 dX11_mean_51 ?_
            refine gf_8_3 C hw tC_2 kw_248 (c1 := 7) rfl dX11_mean_54 ?_
            refine gf_2_5 C hw tC_7 kw_157 dX11_mean_57 ?_
            refine lv_if_eq (tgt := 65) hx hb dX11_mean_60 (by decide) (fun c_21 => ?_) (fun c_21 => ?_)
            · replace h := it_at h c_21
              refine lv_aload_n hx hb dX11_mean_65 rfl (lv_at hl 0 rfl) ?_
              refine gf_11_4 C hw tC_0 kw_405 dX11_mean_66 ?_
              refine lv_aload_n hx hb dX11_mean_69 rfl (lv_at hl 0 rfl) ?_
              refine gf_11_0 C hw tC_0 kw_401 dX11_mean_70 ?_
              refine lv_aload_n hx hb dX11_mean_73 rfl (lv_at hl 0 rfl) ?_
              refine gf_11_1 C hw tC_0 kw_402 dX11_mean_74 ?_
              refine gf_8_3 C hw tC_2 kw_248 (c1 := 7) rfl dX11_mean_77 ?_
              refine gf_2_0 C hw tC_7 kw_147 dX11_mean_80 ?_
              obtain ⟨g_22, h⟩ := gd_at h
              refine q_aald C hw g_22 dX11_mean_83 ?_
              refine lv_aload_n hx hb dX11_mean_84 rfl (lv_at hl 0 rfl) ?_
              refine gf_11_1 C hw tC_0 kw_402 dX11_mean_85 ?_
              refine gf_8_2 C hw tC_2 kw_246 (c1 := 5) rfl dX11_mean_88 ?_
              obtain ⟨σ_24, h_25, h⟩ := bv_at h
              refine q_afterV hw (q_runV C hw hl.1 (As := [.ref (E.2.1 (mo (gI σ_18 7 0).toNatClampNeg)), .ref (E.2.1 (5))]) (rest := []) (m_X5_begin l E (mo (gI σ_18 7 0).toNatClampNeg) (MO.of_ib g_22) σ_18 σ_24 h_25) yq_X5_begin tC_41 rfl rfl kw_741 ⟨Nat.le_of_ble_eq_true rfl, Nat.le_of_ble_eq_true rfl⟩ rfl (Nat.le_of_ble_eq_true rfl) ⟨Nat.zero_le _, Nat.zero_le _⟩ dX11_mean_91) (fun H locs hw => ?_)
              refine lv_aload_n hx hb dX11_mean_94 rfl (lv_at hl 0 rfl) ?_
              refine gf_11_4 C hw tC_0 kw_405 dX11_mean_95 ?_
              refine lv_aload_n hx hb dX11_mean_98 rfl (lv_at hl 0 rfl) ?_
              refine gf_11_1 C hw tC_0 kw_402 dX11_mean_99 ?_
              refine gf_8_4 C hw tC_2 kw_250 (c1 := 8) rfl dX11_mean_102 ?_
              refine lv_iload_n hx hb dX11_mean_105 rfl (lv_at hl 1 rfl) ?_
              obtain ⟨σ_27, h_28, h⟩ := bv_at h
              refine q_afterV hw (q_runV C hw hl.1 (As := [.ref (E.2.1 (8)), .int p1]) (rest := []) (m_X5_followRule l E p1 σ_24 σ_27 h_28) yq_X5_followRule tC_41 rfl rfl kw_745 ⟨Nat.le_of_ble_eq_true rfl, Nat.le_of_ble_eq_true rfl⟩ rfl (Nat.le_of_ble_eq_true rfl) ⟨Nat.zero_le _, Nat.zero_le _⟩ dX11_mean_106) (fun H locs hw => ?_)
              refine lv_iload hx hb dX11_mean_109 (lv_at hl 4 rfl) ?_
              refine lv_if_ne (tgt := 147) hx hb dX11_mean_111 (by decide) (fun c_29 => ?_) (fun c_29 => ?_)
              · replace h := ie_at h c_29
                refine lv_aload_n hx hb dX11_mean_147 rfl (lv_at hl 0 rfl) ?_
                refine gf_11_4 C hw tC_0 kw_405 dX11_mean_148 ?_
                refine lv_iload_n hx hb dX11_mean_151 rfl (lv_at hl 2 rfl) ?_
                refine lv_iload_n hx hb dX11_mean_152 rfl (lv_at hl 3 rfl) ?_
                refine lv_aload_n hx hb dX11_mean_153 rfl (lv_at hl 0 rfl) ?_
                refine gf_11_1 C hw tC_0 kw_402 dX11_mean_154 ?_
                refine gf_8_3 C hw tC_2 kw_248 (c1 := 7) rfl dX11_mean_157 ?_
                refine gf_2_2 C hw tC_7 kw_151 dX11_mean_160 ?_
                refine lv_aload_n hx hb dX11_mean_163 rfl (lv_at hl 0 rfl) ?_
                refine gf_11_1 C hw tC_0 kw_402 dX11_mean_164 ?_
                refine gf_8_3 C hw tC_2 kw_248 (c1 := 7) rfl dX11_mean_167 ?_
                refine gf_2_3 C hw tC_7 kw_153 dX11_mean_170 ?_
                obtain ⟨r_30, σ_31, h_32, h⟩ := bd_at h
                refine q_afterI hw (q_runV C hw hl.1 (As := [.int p2, .int p3, .int (gI σ_27 7 2), .int (gI σ_27 7 3)]) (rest := []) (m_X5_awayFor l E p2 p3 (gI σ_27 7 2) (gI σ_27 7 3) σ_27 r_30 σ_31 h_32) yq_X5_awayFor tC_41 rfl rfl kw_809 ⟨Nat.le_of_ble_eq_true rfl, Nat.le_of_ble_eq_true rfl⟩ rfl (Nat.le_of_ble_eq_true rfl) ⟨Nat.zero_le _, Nat.zero_le _⟩ dX11_mean_173) (fun H locs hw => ?_)
                refine lv_i2l hx hb dX11_mean_176 rfl ?_
                obtain ⟨rfl, rfl⟩ := ret_at h
                exact q_lret C hw dX11_mean_177
              · replace h := it_at h c_29
                refine lv_aload_n hx hb dX11_mean_114 rfl (lv_at hl 0 rfl) ?_
                refine gf_11_4 C hw tC_0 kw_405 dX11_mean_115 ?_
                refine lv_iload_n hx hb dX11_mean_118 rfl (lv_at hl 2 rfl) ?_
                refine lv_iload_n hx hb dX11_mean_119 rfl (lv_at hl 3 rfl) ?_
                refine lv_aload_n hx hb dX11_mean_120 rfl (lv_at hl 0 rfl) ?_
                refine gf_11_1 C hw tC_0 kw_402 dX11_mean_121 ?_
                refine gf_8_3 C hw tC_2 kw_248 (c1 := 7) rfl dX11_mean_124 ?_
                refine gf_2_2 C hw tC_7 kw_151 dX11_mean_127 ?_
                refine lv_aload_n hx hb dX11_mean_130 rfl (lv_at hl 0 rfl) ?_
                refine gf_11_1 C hw tC_0 kw_402 dX11_mean_131 ?_
                refine gf_8_3 C hw tC_2 kw_248 (c1 := 7) rfl dX11_mean_134 ?_
                refine gf_2_3 C hw tC_7 kw_153 dX11_mean_137 ?_
                obtain ⟨r_33, σ_34, h_35, h⟩ := bd_at h
                refine q_afterI hw (q_runV C hw hl.1 (As := [.int p2, .int p3, .int (gI σ_27 7 2), .int (gI σ_27 7 3)]) (rest := []) (m_X5_meanFor l E p2 p3 (gI σ_27 7 2) (gI σ_27 7 3) σ_27 r_33 σ_34 h_35) yq_X5_meanFor tC_41 rfl rfl kw_791 ⟨Nat.le_of_ble_eq_true rfl, Nat.le_of_ble_eq_true rfl⟩ rfl (Nat.le_of_ble_eq_true rfl) ⟨Nat.zero_le _, Nat.zero_le _⟩ dX11_mean_140) (fun H locs hw => ?_)
                refine lv_i2l hx hb dX11_mean_143 rfl ?_
                refine lv_goto (tgt := 177) hx hb dX11_mean_144 (by decide) ?_
                obtain ⟨rfl, rfl⟩ := ret_at h
                exact q_lret C hw dX11_mean_177
            · replace h := ie_at h c_21
              refine lv_lconst (v := 0) hx hb dX11_mean_63 (by decide) ?_
              obtain ⟨rfl, rfl⟩ := ret_at h
              exact q_lret C hw dX11_mean_64
          · replace h := it_at h c_20
            refine lv_ldc2 hx hb hown (hts _ kw_790) dX11_mean_46 ?_
            obtain ⟨rfl, rfl⟩ := ret_at h
            exact q_lret C hw dX11_mean_49
      · replace h := it_at h c_12
        refine lv_ldc2 hx hb hown (hts _ kw_790) dX11_mean_25 ?_
        obtain ⟨rfl, rfl⟩ := ret_at h
        exact q_lret C hw dX11_mean_28
def f_X11_mill (σ : Mem) : Option (Int32 × Mem) :=
  if (gI σ 2 0) < (5 : Int32) then
    (gd (ib (gI σ 2 0) 5) <|
    bd (f_X6_read (mo (gI σ 2 0).toNatClampNeg) σ) fun r_3 σ_4 =>
    lt (sI σ_4 3 1 (0 : Int32)) fun σ_6 =>
    if r_3 < 0 then
      (lt (sI σ_6 2 0 ((gI σ_6 2 0) + (1 : Int32))) fun σ_8 =>
      some ((gI σ_8 2 0) - (1 : Int32), σ_8))
    else
      some ((-10 : Int32) - r_3, σ_6))
  else
    some ((-4 : Int32), σ)
set_option maxHeartbeats 4000000 in
set_option maxRecDepth 100000 in
theorem m_X11_mill (l : Launch) (E : EV) (σ : Mem) (rr : Int32) (τ : Mem) (h : f_X11_mill  σ = some (rr, τ)) : MI TC l E yX11_mill cX11_mill 2 (some .int) 91 2373 [.ref (E.2.1 (0))] σ rr τ := by
  refine mt_start RX11 (by decide +kernel) rfl (Nat.le_of_ble_eq_true rfl) (fun p e s m args below meth c ls C hw hl => ?_)
  replace hl : lv_has ls 2 [(0, .ref (E.2.1 (0)))] := hl
  obtain ⟨hx, hb, hml, hown, hts, hK, hSt, hlk, hr⟩ := id C
  unfold f_X11_mill at h
  refine lv_aload_n hx hb dX11_mill_0 rfl (lv_at hl 0 rfl) ?_
  refine gf_11_1 C hw tC_0 kw_402 dX11_mill_1 ?_
  refine gf_8_0 C hw tC_2 kw_242 dX11_mill_4 ?_
  refine lv_iconst (v := 5) hx hb dX11_mill_7 (by decide) ?_
  refine lv_icmp_lt (tgt := 14) hx hb dX11_mill_8 (by decide) (fun c_1 => ?_) (fun c_1 => ?_)
  · replace h := it_at h c_1
    refine lv_aload_n hx hb dX11_mill_14 rfl (lv_at hl 0 rfl) ?_
    refine gf_11_3 C hw tC_0 kw_404 dX11_mill_15 ?_
    refine lv_aload_n hx hb dX11_mill_18 rfl (lv_at hl 0 rfl) ?_
    refine gf_11_1 C hw tC_0 kw_402 dX11_mill_19 ?_
    refine gf_8_1 C hw tC_2 kw_244 (c1 := 3) rfl dX11_mill_22 ?_
    refine lv_aload_n hx hb dX11_mill_25 rfl (lv_at hl 0 rfl) ?_
    refine gf_11_0 C hw tC_0 kw_401 dX11_mill_26 ?_
    refine lv_aload_n hx hb dX11_mill_29 rfl (lv_at hl 0 rfl) ?_
    refine gf_11_1 C hw tC_0 kw_402 dX11_mill_30 ?_
    refine gf_8_0 C hw tC_2 kw_242 dX11_mill_33 ?_
    obtain ⟨g_2, h⟩ := gd_at h
    refine q_aald C hw g_2 dX11_mill_36 ?_
    obtain ⟨r_3, σ_4, h_5, h⟩ := bd_at h
    refine q_afterI hw (q_runV C hw hl.1 (As := [.ref (E.2.1 (3)), .ref (E.2.1 (mo (gI σ 2 0).toNatClampNeg))]) (rest := []) (m_X6_read l E (mo (gI σ 2 0).toNatClampNeg) (MO.of_ib g_2) σ r_3 σ_4 h_5) yq_X6_read tC_40 rfl rfl kw_438 ⟨Nat.le_of_ble_eq_true rfl, Nat.le_of_ble_eq_true rfl⟩ rfl (Nat.le_of_ble_eq_true rfl) ⟨Nat.zero_le _, Nat.zero_le _⟩ dX11_mill_37) (fun H locs hw => ?_)
    refine lv_istore_n (lv' := [(1, .int r_3), (0, .ref (E.2.1 (0)))]) hx hb dX11_mill_40 rfl hl (by decide) rfl (fun ls hl => ?_)
    refine lv_aload_n hx hb dX11_mill_41 rfl (lv_at hl 1 rfl) ?_
    refine gf_11_1 C hw tC_0 kw_402 dX11_mill_42 ?_
    refine gf_8_1 C hw tC_2 kw_244 (c1 := 3) rfl dX11_mill_45 ?_
    refine lv_iconst (v := 0) hx hb dX11_mill_48 (by decide) ?_
    obtain ⟨σ_6, eσ_6, h⟩ := lt_at h
    refine pf_9_1 C hw tC_3 kw_121 eσ_6 dX11_mill_49 (fun H locs hw => ?_)
    refine lv_iload_n hx hb dX11_mill_52 rfl (lv_at hl 0 rfl) ?_
    refine lv_if_lt (tgt := 61) hx hb dX11_mill_53 (by decide) (fun c_7 => ?_) (fun c_7 => ?_)
    · replace h := it_at h c_7
      refine lv_aload_n hx hb dX11_mill_61 rfl (lv_at hl 1 rfl) ?_
      refine gf_11_1 C hw tC_0 kw_402 dX11_mill_62 ?_
      refine lv_dup hx hb dX11_mill_65 rfl ?_
      refine gf_8_0 C hw tC_2 kw_242 dX11_mill_66 ?_
      refine lv_iconst (v := 1) hx hb dX11_mill_69 (by decide) ?_
      refine lv_iadd hx hb dX11_mill_70 ?_
      obtain ⟨σ_8, eσ_8, h⟩ := lt_at h
      refine pf_8_0 C hw tC_2 kw_242 eσ_8 dX11_mill_71 (fun H locs hw => ?_)
      refine lv_aload_n hx hb dX11_mill_74 rfl (lv_at hl 1 rfl) ?_
      refine gf_11_1 C hw tC_0 kw_402 dX11_mill_75 ?_
      refine gf_8_0 C hw tC_2 kw_242 dX11_mill_78 ?_
      refine lv_iconst (v := 1) hx hb dX11_mill_81 (by decide) ?_
      refine lv_isub hx hb dX11_mill_82 ?_
      obtain ⟨rfl, rfl⟩ := ret_at h
      exact q_iret C hw dX11_mill_83
    · replace h := ie_at h c_7
      refine lv_bipush (v := (-10)) hx hb dX11_mill_56 (by decide) ?_
      refine lv_iload_n hx hb dX11_mill_58 rfl (lv_at hl 0 rfl) ?_
      refine lv_isub hx hb dX11_mill_59 ?_
      obtain ⟨rfl, rfl⟩ := ret_at h
      exact q_iret C hw dX11_mill_60
  · replace h := ie_at h c_1
    refine lv_bipush (v := (-4)) hx hb dX11_mill_11 (by decide) ?_
    obtain ⟨rfl, rfl⟩ := ret_at h
    exact q_iret C hw dX11_mill_13
def f_X11_order (p1 : Int32) (p2 : Int32) (p3 : Int32) (σ : Mem) : Option (Int32 × Mem) :=
  bd (f_X11_within p1 (1 : Int32) (20 : Int32) σ) fun r_1 σ_2 =>
  if r_1 = 0 then
    (some ((-2 : Int32), σ_2))
  else
    bd (f_X11_within p2 (1 : Int32) (99 : Int32) σ_2) fun r_5 σ_6 =>
    if r_5 = 0 then
      (some ((-2 : Int32), σ_6))
    else
      bd (f_X11_within p3 (0 : Int32) (99 : Int32) σ_6) fun r_9 σ_10 =>
      if r_9 = 0 then
        (some ((-2 : Int32), σ_10))
      else
        if (gI σ_10 16 4) < (6 : Int32) then
          (bd (f_X4_append p1 p2 p3 σ_10) fun r_14 σ_15 =>
          some (r_14, σ_15))
        else
          some ((-4 : Int32), σ_10)
set_option maxHeartbeats 4000000 in
set_option maxRecDepth 100000 in
theorem m_X11_order (l : Launch) (E : EV) (p1 : Int32) (p2 : Int32) (p3 : Int32) (σ : Mem) (rr : Int32) (τ : Mem) (h : f_X11_order p1 p2 p3 σ = some (rr, τ)) : MI TC l E yX11_order cX11_order 4 (some .int) 1 25 [.ref (E.2.1 (0)), .int p1, .int p2, .int p3] σ rr τ := by
  refine mt_start RX11 (by decide +kernel) rfl (Nat.le_of_ble_eq_true rfl) (fun p e s m args below meth c ls C hw hl => ?_)
  replace hl : lv_has ls 4 [(0, .ref (E.2.1 (0))), (1, .int p1), (2, .int p2), (3, .int p3)] := hl
  obtain ⟨hx, hb, hml, hown, hts, hK, hSt, hlk, hr⟩ := id C
  unfold f_X11_order at h
  refine lv_iload_n hx hb dX11_order_0 rfl (lv_at hl 1 rfl) ?_
  refine lv_iconst (v := 1) hx hb dX11_order_1 (by decide) ?_
  refine lv_bipush (v := 20) hx hb dX11_order_2 (by decide) ?_
  obtain ⟨r_1, σ_2, h_3, h⟩ := bd_at h
  refine q_afterI hw (q_runS C hw hl.1 (As := [.int p1, .int (1 : Int32), .int (20 : Int32)]) (rest := []) (m_X11_within l E p1 (1 : Int32) (20 : Int32) σ r_1 σ_2 h_3) yq_X11_within kw_427 ⟨Nat.le_of_ble_eq_true rfl, Nat.le_of_ble_eq_true rfl⟩ rfl (Nat.le_of_ble_eq_true rfl) ⟨Nat.zero_le _, Nat.zero_le _⟩ dX11_order_4) (fun H locs hw => ?_)
  refine lv_if_eq (tgt := 30) hx hb dX11_order_7 (by decide) (fun c_4 => ?_) (fun c_4 => ?_)
  · replace h := it_at h c_4
    refine lv_bipush (v := (-2)) hx hb dX11_order_30 (by decide) ?_
    obtain ⟨rfl, rfl⟩ := ret_at h
    exact q_iret C hw dX11_order_32
  · replace h := ie_at h c_4
    refine lv_iload_n hx hb dX11_order_10 rfl (lv_at hl 2 rfl) ?_
    refine lv_iconst (v := 1) hx hb dX11_order_11 (by decide) ?_
    refine lv_bipush (v := 99) hx hb dX11_order_12 (by decide) ?_
    obtain ⟨r_5, σ_6, h_7, h⟩ := bd_at h
    refine q_afterI hw (q_runS C hw hl.1 (As := [.int p2, .int (1 : Int32), .int (99 : Int32)]) (rest := []) (m_X11_within l E p2 (1 : Int32) (99 : Int32) σ_2 r_5 σ_6 h_7) yq_X11_within kw_427 ⟨Nat.le_of_ble_eq_true rfl, Nat.le_of_ble_eq_true rfl⟩ rfl (Nat.le_of_ble_eq_true rfl) ⟨Nat.zero_le _, Nat.zero_le _⟩ dX11_order_14) (fun H locs hw => ?_)
    refine lv_if_eq (tgt := 30) hx hb dX11_order_17 (by decide) (fun c_8 => ?_) (fun c_8 => ?_)
    · replace h := it_at h c_8
      refine lv_bipush (v := (-2)) hx hb dX11_order_30 (by decide) ?_
      obtain ⟨rfl, rfl⟩ := ret_at h
      exact q_iret C hw dX11_order_32
    · replace h := ie_at h c_8
      refine lv_iload_n hx hb dX11_order_20 rfl (lv_at hl 3 rfl) ?_
      refine lv_iconst (v := 0) hx hb dX11_order_21 (by decide) ?_
      refine lv_bipush (v := 99) hx hb dX11_order_22 (by decide) ?_
      obtain ⟨r_9, σ_10, h_11, h⟩ := bd_at h
      refine q_afterI hw (q_runS C hw hl.1 (As := [.int p3, .int (0 : Int32), .int (99 : Int32)]) (rest := []) (m_X11_within l E p3 (0 : Int32) (99 : Int32) σ_6 r_9 σ_10 h_11) yq_X11_within kw_427 ⟨Nat.le_of_ble_eq_true rfl, Nat.le_of_ble_eq_true rfl⟩ rfl (Nat.le_of_ble_eq_true rfl) ⟨Nat.zero_le _, Nat.zero_le _⟩ dX11_order_24) (fun H locs hw => ?_)
      refine lv_if_ne (tgt := 33) hx hb dX11_order_27 (by decide) (fun c_12 => ?_) (fun c_12 => ?_)
      · replace h := ie_at h c_12
        refine lv_aload_n hx hb dX11_order_33 rfl (lv_at hl 0 rfl) ?_
        refine gf_11_1 C hw tC_0 kw_402 dX11_order_34 ?_
        refine gf_8_6 C hw tC_2 kw_254 (c1 := 16) rfl dX11_order_37 ?_
        refine gf_4_4 C hw tC_16 kw_229 dX11_order_40 ?_
        refine lv_bipush (v := 6) hx hb dX11_order_43 (by decide) ?_
        refine lv_icmp_lt (tgt := 51) hx hb dX11_order_45 (by decide) (fun c_13 => ?_) (fun c_13 => ?_)
        · replace h := it_at h c_13
          refine lv_aload_n hx hb dX11_order_51 rfl (lv_at hl 0 rfl) ?_
          refine gf_11_1 C hw tC_0 kw_402 dX11_order_52 ?_
          refine gf_8_6 C hw tC_2 kw_254 (c1 := 16) rfl dX11_order_55 ?_
          refine lv_iload_n hx hb dX11_order_58 rfl (lv_at hl 1 rfl) ?_
          refine lv_iload_n hx hb dX11_order_59 rfl (lv_at hl 2 rfl) ?_
          refine lv_iload_n hx hb dX11_order_60 rfl (lv_at hl 3 rfl) ?_
          obtain ⟨r_14, σ_15, h_16, h⟩ := bd_at h
          refine q_afterI hw (q_runV C hw hl.1 (As := [.int p1, .int p2, .int p3]) (rest := []) (m_X4_append l E p1 p2 p3 σ_10 r_14 σ_15 h_16) yq_X4_append tC_16 rfl rfl kw_872 ⟨Nat.le_of_ble_eq_true rfl, Nat.le_of_ble_eq_true rfl⟩ rfl (Nat.le_of_ble_eq_true rfl) ⟨Nat.zero_le _, Nat.zero_le _⟩ dX11_order_61) (fun H locs hw => ?_)
          obtain ⟨rfl, rfl⟩ := ret_at h
          exact q_iret C hw dX11_order_64
        · replace h := ie_at h c_13
          refine lv_bipush (v := (-4)) hx hb dX11_order_48 (by decide) ?_
          obtain ⟨rfl, rfl⟩ := ret_at h
          exact q_iret C hw dX11_order_50
      · replace h := it_at h c_12
        refine lv_bipush (v := (-2)) hx hb dX11_order_30 (by decide) ?_
        obtain ⟨rfl, rfl⟩ := ret_at h
        exact q_iret C hw dX11_order_32
def f_X11_rests_12 (k12 : Int32 → Int32 → Int32 → Int32 → Mem → Option (Int32 × Mem)) (x1 : Int32) (x2 : Int32) (x4 : Int32) (x5 : Int32) (σ : Mem) : Option (Int32 × Mem) :=
  if (4 : Int32) ≤ x5 then
    (some ((1 : Int32), σ))
  else
    bd (f_X11_ground x1 x2 x5 σ) fun r_5 σ_6 =>
    if r_5 ≤ x4 then
      (lt (x5 + (1 : Int32)) fun x5_9 =>
      k12 x1 x2 x4 x5_9 σ_6)
    else
      some ((0 : Int32), σ_6)
def f_X11_rests (p1 : Int32) (p2 : Int32) (p3 : Int32) (σ : Mem) : Option (Int32 × Mem) :=
  bd (f_X11_ground p1 p2 p3 σ) fun r_1 σ_2 =>
  fx5 (f_X11_rests_12) FU p1 p2 r_1 (0 : Int32) σ_2
set_option maxHeartbeats 4000000 in
set_option maxRecDepth 100000 in
theorem w_X11_rests_12 {p : Program} {l : Launch} {e : Env} {s : State} {m : MethodId} {args : Array Value} {below : List Frame} {meth : Method} {c : Code} {E : EV} {rr : Int32} {τ : Mem} (C : Cx E p s m args meth c cX11_rests 6 (some .boolean) RX11) : ∀ (n : Nat) (x1 : Int32) (x2 : Int32) (x4 : Int32) (x5 : Int32) (σ : Mem) (H : Heap) (locs : List Loc) (ls : Array Slot) (hw : Wd TC E σ s H locs) (hl : lv_has ls 6 [(0, .ref (E.2.1 (0))), (1, .int x1), (2, .int x2), (4, .int x4), (5, .int x5)]) (h : fx5 (f_X11_rests_12) n x1 x2 x4 x5 σ = some (rr, τ)), W p l e { frames := 4, cells := 0, slots := 0, locals := 102 } s m args below meth c H locs 0 0 (MQ below (QI TC E rr τ) args s 0 0 E.2.2.1) (F0 m 12 ls []) := by
  obtain ⟨hx, hb, hml, hown, hts, hK, hSt, hlk, hr⟩ := id C
  intro n
  induction n with
  | zero =>
    intro x1 x2 x4 x5 σ H locs ls hw hl h
    have h : none = some (rr, τ) := h
    cases h
  | succ n hk12 =>
    intro x1 x2 x4 x5 σ H locs ls hw hl h
    replace h : f_X11_rests_12 (fx5 (f_X11_rests_12) n) x1 x2 x4 x5 σ = some (rr, τ) := h
    unfold f_X11_rests_12 at h
    refine lv_iload hx hb dX11_rests_12 (lv_at hl 4 rfl) ?_
    refine lv_iconst (v := 4) hx hb dX11_rests_14 (by decide) ?_
    refine lv_icmp_ge (tgt := 39) hx hb dX11_rests_15 (by decide) (fun c_4 => ?_) (fun c_4 => ?_)
    · replace h := it_at h c_4
      refine lv_iconst (v := 1) hx hb dX11_rests_39 (by decide) ?_
      obtain ⟨rfl, rfl⟩ := ret_at h
      exact q_zret C (by decide) hw dX11_rests_40
    · replace h := ie_at h c_4
      refine lv_aload_n hx hb dX11_rests_18 rfl (lv_at hl 0 rfl) ?_
      refine lv_iload_n hx hb dX11_rests_19 rfl (lv_at hl 1 rfl) ?_
      refine lv_iload_n hx hb dX11_rests_20 rfl (lv_at hl 2 rfl) ?_
      refine lv_iload hx hb dX11_rests_21 (lv_at hl 4 rfl) ?_
      obtain ⟨r_5, σ_6, h_7, h⟩ := bd_at h
      refine q_afterI hw (q_runV C hw hl.1 (As := [.int x1, .int x2, .int x5]) (rest := []) (m_X11_ground l E x1 x2 x5 σ r_5 σ_6 h_7) yq_X11_ground tC_0 rfl rfl kw_902 ⟨Nat.le_of_ble_eq_true rfl, Nat.le_of_ble_eq_true rfl⟩ rfl (Nat.le_of_ble_eq_true rfl) ⟨Nat.zero_le _, Nat.zero_le _⟩ dX11_rests_23) (fun H locs hw => ?_)
      refine lv_iload hx hb dX11_rests_26 (lv_at hl 3 rfl) ?_
      refine lv_icmp_le (tgt := 33) hx hb dX11_rests_28 (by decide) (fun c_8 => ?_) (fun c_8 => ?_)
      · replace h := it_at h c_8
        obtain ⟨x5_9, ex5_9, h⟩ := lt_at h
        refine lv_iinc (v := x5_9) (lv' := [(5, .int x5_9), (0, .ref (E.2.1 (0))), (1, .int x1), (2, .int x2), (4, .int x4)]) hx hb dX11_rests_33 hl (k := 4) rfl (by rw [ex5_9]; rfl) (by decide) rfl (fun ls hl => ?_)
        refine lv_goto (tgt := 12) hx hb dX11_rests_36 (by decide) ?_
        exact hk12 _ _ _ _ _ _ _ _ hw (lv_sub hl [1, 2, 3, 4, 0] rfl) h
      · replace h := ie_at h c_8
        refine lv_iconst (v := 0) hx hb dX11_rests_31 (by decide) ?_
        obtain ⟨rfl, rfl⟩ := ret_at h
        exact q_zret C (by decide) hw dX11_rests_32
set_option maxHeartbeats 4000000 in
set_option maxRecDepth 100000 in
theorem m_X11_rests (l : Launch) (E : EV) (p1 : Int32) (p2 : Int32) (p3 : Int32) (σ : Mem) (rr : Int32) (τ : Mem) (h : f_X11_rests p1 p2 p3 σ = some (rr, τ)) : MI TC l E yX11_rests cX11_rests 6 (some .boolean) 4 102 [.ref (E.2.1 (0)), .int p1, .int p2, .int p3] σ rr τ := by
  refine mt_start RX11 (by decide +kernel) rfl (Nat.le_of_ble_eq_true rfl) (fun p e s m args below meth c ls C hw hl => ?_)
  replace hl : lv_has ls 6 [(0, .ref (E.2.1 (0))), (1, .int p1), (2, .int p2), (3, .int p3)] := hl
  obtain ⟨hx, hb, hml, hown, hts, hK, hSt, hlk, hr⟩ := id C
  unfold f_X11_rests at h
  refine lv_aload_n hx hb dX11_rests_0 rfl (lv_at hl 0 rfl) ?_
  refine lv_iload_n hx hb dX11_rests_1 rfl (lv_at hl 1 rfl) ?_
  refine lv_iload_n hx hb dX11_rests_2 rfl (lv_at hl 2 rfl) ?_
  refine lv_iload_n hx hb dX11_rests_3 rfl (lv_at hl 3 rfl) ?_
  obtain ⟨r_1, σ_2, h_3, h⟩ := bd_at h
  refine q_afterI hw (q_runV C hw hl.1 (As := [.int p1, .int p2, .int p3]) (rest := []) (m_X11_ground l E p1 p2 p3 σ r_1 σ_2 h_3) yq_X11_ground tC_0 rfl rfl kw_902 ⟨Nat.le_of_ble_eq_true rfl, Nat.le_of_ble_eq_true rfl⟩ rfl (Nat.le_of_ble_eq_true rfl) ⟨Nat.zero_le _, Nat.zero_le _⟩ dX11_rests_4) (fun H locs hw => ?_)
  refine lv_istore (lv' := [(4, .int r_1), (0, .ref (E.2.1 (0))), (1, .int p1), (2, .int p2), (3, .int p3)]) hx hb dX11_rests_7 hl (by decide) rfl (fun ls hl => ?_)
  refine lv_iconst (v := 0) hx hb dX11_rests_9 (by decide) ?_
  refine lv_istore (lv' := [(5, .int (0 : Int32)), (4, .int r_1), (0, .ref (E.2.1 (0))), (1, .int p1), (2, .int p2), (3, .int p3)]) hx hb dX11_rests_10 hl (by decide) rfl (fun ls hl => ?_)
  exact w_X11_rests_12 C _ _ _ _ _ _ _ _ _ hw (lv_sub hl [2, 3, 4, 1, 0] rfl) h
def f_X11_ridge_214 (k58 : Int32 → Int32 → Int32 → Int32 → Int32 → Int32 → Int32 → Int32 → Int32 → Mem → Option (Int32 × Mem)) (x1 : Int32) (x2 : Int32) (x3 : Int32) (x4 : Int32) (x5 : Int32) (x6 : Int32) (x7 : Int32) (x8 : Int32) (x9 : Int32) (σ : Mem) : Option (Int32 × Mem) :=
  lt (x9 + (1 : Int32)) fun x9_54 =>
  k58 x1 x2 x3 x4 x5 x6 x7 x8 x9_54 σ
def f_X11_ridge_58 (k58 : Int32 → Int32 → Int32 → Int32 → Int32 → Int32 → Int32 → Int32 → Int32 → Mem → Option (Int32 × Mem)) (x1 : Int32) (x2 : Int32) (x3 : Int32) (x4 : Int32) (x5 : Int32) (x6 : Int32) (x7 : Int32) (x8 : Int32) (x9 : Int32) (σ : Mem) : Option (Int32 × Mem) :=
  if (64 : Int32) ≤ x9 then
    (if x5 = 0 then
      (some (x7, σ))
    else
      if x7 = (-5 : Int32) then
        (some ((1 : Int32), σ))
      else
        some (x8 - x6, σ))
  else
    lt (x9 / (16 : Int32)) fun x10_24 =>
    lt (irm (x9 / (4 : Int32)) (4 : Int32)) fun x11_25 =>
    lt (irm x9 (4 : Int32)) fun x12_26 =>
    lt (imx (0 : Int32) (x4 - x10_24)) fun x13_27 =>
    lt (imx (0 : Int32) ((x4 - x10_24) - x11_25)) fun x14_28 =>
    bd (f_X11_ground x1 x4 x10_24 σ) fun r_29 σ_30 =>
    bd (f_X11_ground x2 x13_27 x11_25 σ_30) fun r_32 σ_33 =>
    bd (f_X11_ground x3 x14_28 x12_26 σ_33) fun r_35 σ_36 =>
    lt ((r_29 + r_32) + r_35) fun x15_38 =>
    lt (imx x6 x15_38) fun x6_39 =>
    if x7 = (-5 : Int32) then
      (bd (f_X11_rests x1 x4 x10_24 σ_36) fun r_41 σ_42 =>
      if r_41 = 0 then
        (f_X11_ridge_214 k58 x1 x2 x3 x4 x5 x6_39 x7 x8 x9 σ_42)
      else
        bd (f_X11_rests x2 x13_27 x11_25 σ_42) fun r_45 σ_46 =>
        if r_45 = 0 then
          (f_X11_ridge_214 k58 x1 x2 x3 x4 x5 x6_39 x7 x8 x9 σ_46)
        else
          bd (f_X11_rests x3 x14_28 x12_26 σ_46) fun r_49 σ_50 =>
          if r_49 = 0 then
            (f_X11_ridge_214 k58 x1 x2 x3 x4 x5 x6_39 x7 x8 x9 σ_50)
          else
            lt ((((100 : Int32) * x10_24) + ((10 : Int32) * x11_25)) + x12_26) fun x7_53 =>
            f_X11_ridge_214 k58 x1 x2 x3 x4 x5 x6_39 x7_53 x15_38 x9 σ_50)
    else
      f_X11_ridge_214 k58 x1 x2 x3 x4 x5 x6_39 x7 x8 x9 σ_36
def f_X11_ridge (p1 : Int32) (p2 : Int32) (p3 : Int32) (p4 : Int32) (p5 : Int32) (σ : Mem) : Option (Int32 × Mem) :=
  bd (f_X11_isMill p1 σ) fun r_1 σ_2 =>
  if r_1 = 0 then
    (some ((-1 : Int32), σ_2))
  else
    bd (f_X11_isMill p2 σ_2) fun r_5 σ_6 =>
    if r_5 = 0 then
      (some ((-1 : Int32), σ_6))
    else
      bd (f_X11_isMill p3 σ_6) fun r_9 σ_10 =>
      if r_9 = 0 then
        (some ((-1 : Int32), σ_10))
      else
        bd (f_X11_isWind p4 σ_10) fun r_13 σ_14 =>
        if r_13 = 0 then
          (some ((-1 : Int32), σ_14))
        else
          bd (f_X11_within p5 (0 : Int32) (1 : Int32) σ_14) fun r_17 σ_18 =>
          if r_17 = 0 then
            (some ((-1 : Int32), σ_18))
          else
            fx10 (f_X11_ridge_58) FU p1 p2 p3 p4 p5 (-3 : Int32) (-5 : Int32) (0 : Int32) (0 : Int32) σ_18
set_option maxHeartbeats 4000000 in
set_option maxRecDepth 100000 in
theorem w_X11_ridge_214 {p : Program} {l : Launch} {e : Env} {s : State} {m : MethodId} {args : Array Value} {below : List Frame} {meth : Method} {c : Code} {E : EV} {rr : Int32} {τ : Mem} (C : Cx E p s m args meth c cX11_ridge 16 (some .int) RX11) (k58 : Int32 → Int32 → Int32 → Int32 → Int32 → Int32 → Int32 → Int32 → Int32 → Mem → Option (Int32 × Mem)) (hk58 : ∀ (x1 : Int32) (x2 : Int32) (x3 : Int32) (x4 : Int32) (x5 : Int32) (x6 : Int32) (x7 : Int32) (x8 : Int32) (x9 : Int32) (σ : Mem) (H : Heap) (locs : List Loc) (ls : Array Slot) (hw : Wd TC E σ s H locs) (hl : lv_has ls 16 [(0, .ref (E.2.1 (0))), (1, .int x1), (2, .int x2), (3, .int x3), (4, .int x4), (5, .int x5), (6, .int x6), (7, .int x7), (8, .int x8), (9, .int x9)]) (h : k58 x1 x2 x3 x4 x5 x6 x7 x8 x9 σ = some (rr, τ)), W p l e { frames := 5, cells := 0, slots := 0, locals := 127 } s m args below meth c H locs 0 0 (MQ below (QI TC E rr τ) args s 0 0 E.2.2.1) (F0 m 58 ls [])) : ∀ (x1 : Int32) (x2 : Int32) (x3 : Int32) (x4 : Int32) (x5 : Int32) (x6 : Int32) (x7 : Int32) (x8 : Int32) (x9 : Int32) (σ : Mem) (H : Heap) (locs : List Loc) (ls : Array Slot) (hw : Wd TC E σ s H locs) (hl : lv_has ls 16 [(0, .ref (E.2.1 (0))), (1, .int x1), (2, .int x2), (3, .int x3), (4, .int x4), (5, .int x5), (6, .int x6), (7, .int x7), (8, .int x8), (9, .int x9)]) (h : f_X11_ridge_214 k58 x1 x2 x3 x4 x5 x6 x7 x8 x9 σ = some (rr, τ)), W p l e { frames := 5, cells := 0, slots := 0, locals := 127 } s m args below meth c H locs 0 0 (MQ below (QI TC E rr τ) args s 0 0 E.2.2.1) (F0 m 214 ls []) := by
  obtain ⟨hx, hb, hml, hown, hts, hK, hSt, hlk, hr⟩ := id C
  intro x1 x2 x3 x4 x5 x6 x7 x8 x9 σ H locs ls hw hl h
  unfold f_X11_ridge_214 at h
  obtain ⟨x9_54, ex9_54, h⟩ := lt_at h
  refine lv_iinc (v := x9_54) (lv' := [(9, .int x9_54), (0, .ref (E.2.1 (0))), (1, .int x1), (2, .int x2), (3, .int x3), (4, .int x4), (5, .int x5), (6, .int x6), (7, .int x7), (8, .int x8)]) hx hb dX11_ridge_214 hl (k := 9) rfl (by rw [ex9_54]; rfl) (by decide) rfl (fun ls hl => ?_)
  refine lv_goto (tgt := 58) hx hb dX11_ridge_217 (by decide) ?_
  exact hk58 _ _ _ _ _ _ _ _ _ _ _ _ _ hw (lv_sub hl [1, 2, 3, 4, 5, 6, 7, 8, 9, 0] rfl) h
set_option maxHeartbeats 4000000 in
set_option maxRecDepth 100000 in
theorem w_X11_ridge_58 {p : Program} {l : Launch} {e : Env} {s : State} {m : MethodId} {args : Array Value} {below : List Frame} {meth : Method} {c : Code} {E : EV} {rr : Int32} {τ : Mem} (C : Cx E p s m args meth c cX11_ridge 16 (some .int) RX11) : ∀ (n : Nat) (x1 : Int32) (x2 : Int32) (x3 : Int32) (x4 : Int32) (x5 : Int32) (x6 : Int32) (x7 : Int32) (x8 : Int32) (x9 : Int32) (σ : Mem) (H : Heap) (locs : List Loc) (ls : Array Slot) (hw : Wd TC E σ s H locs) (hl : lv_has ls 16 [(0, .ref (E.2.1 (0))), (1, .int x1), (2, .int x2), (3, .int x3), (4, .int x4), (5, .int x5), (6, .int x6), (7, .int x7), (8, .int x8), (9, .int x9)]) (h : fx10 (f_X11_ridge_58) n x1 x2 x3 x4 x5 x6 x7 x8 x9 σ = some (rr, τ)), W p l e { frames := 5, cells := 0, slots := 0, locals := 127 } s m args below meth c H locs 0 0 (MQ below (QI TC E rr τ) args s 0 0 E.2.2.1) (F0 m 58 ls []) := by
  obtain ⟨hx, hb, hml, hown, hts, hK, hSt, hlk, hr⟩ := id C
  intro n
  induction n with
  | zero =>
    intro x1 x2 x3 x4 x5 x6 x7 x8 x9 σ H locs ls hw hl h
    have h : none = some (rr, τ) := h
    cases h
  | succ n hk58 =>
    intro x1 x2 x3 x4 x5 x6 x7 x8 x9 σ H locs ls hw hl h
    replace h : f_X11_ridge_58 (fx10 (f_X11_ridge_58) n) x1 x2 x3 x4 x5 x6 x7 x8 x9 σ = some (rr, τ) := h
    unfold f_X11_ridge_58 at h
    refine lv_iload hx hb dX11_ridge_58 (lv_at hl 9 rfl) ?_
    refine lv_bipush (v := 64) hx hb dX11_ridge_60 (by decide) ?_
    refine lv_icmp_ge (tgt := 220) hx hb dX11_ridge_62 (by decide) (fun c_21 => ?_) (fun c_21 => ?_)
    · replace h := it_at h c_21
      refine lv_iload hx hb dX11_ridge_220 (lv_at hl 5 rfl) ?_
      refine lv_if_ne (tgt := 228) hx hb dX11_ridge_222 (by decide) (fun c_22 => ?_) (fun c_22 => ?_)
      · replace h := ie_at h c_22
        refine lv_iload hx hb dX11_ridge_228 (lv_at hl 7 rfl) ?_
        refine lv_bipush (v := (-5)) hx hb dX11_ridge_230 (by decide) ?_
        refine lv_icmp_ne (tgt := 239) hx hb dX11_ridge_232 (by decide) (fun c_23 => ?_) (fun c_23 => ?_)
        · replace h := ie_at h c_23
          refine lv_iload hx hb dX11_ridge_239 (lv_at hl 8 rfl) ?_
          refine lv_iload hx hb dX11_ridge_241 (lv_at hl 6 rfl) ?_
          refine lv_isub hx hb dX11_ridge_243 ?_
          obtain ⟨rfl, rfl⟩ := ret_at h
          exact q_iret C hw dX11_ridge_244
        · replace h := it_at h c_23
          refine lv_iconst (v := 1) hx hb dX11_ridge_235 (by decide) ?_
          refine lv_goto (tgt := 244) hx hb dX11_ridge_236 (by decide) ?_
          obtain ⟨rfl, rfl⟩ := ret_at h
          exact q_iret C hw dX11_ridge_244
      · replace h := it_at h c_22
        refine lv_iload hx hb dX11_ridge_225 (lv_at hl 7 rfl) ?_
        obtain ⟨rfl, rfl⟩ := ret_at h
        exact q_iret C hw dX11_ridge_227
    · replace h := ie_at h c_21
      refine lv_iload hx hb dX11_ridge_65 (lv_at hl 9 rfl) ?_
      refine lv_bipush (v := 16) hx hb dX11_ridge_67 (by decide) ?_
      refine lv_idiv hx hb dX11_ridge_69 (by decide) ?_
      obtain ⟨x10_24, ex10_24, h⟩ := lt_at h
      refine q_top ex10_24 ?_
      refine lv_istore (lv' := [(10, .int x10_24), (0, .ref (E.2.1 (0))), (1, .int x1), (2, .int x2), (3, .int x3), (4, .int x4), (5, .int x5), (6, .int x6), (7, .int x7), (8, .int x8), (9, .int x9)]) hx hb dX11_ridge_70 hl (by decide) rfl (fun ls hl => ?_)
      refine lv_iload hx hb dX11_ridge_72 (lv_at hl 10 rfl) ?_
      refine lv_iconst (v := 4) hx hb dX11_ridge_74 (by decide) ?_
      refine lv_idiv hx hb dX11_ridge_75 (by decide) ?_
      refine lv_iconst (v := 4) hx hb dX11_ridge_76 (by decide) ?_
      refine q_irem hx hb dX11_ridge_77 (by decide) ?_
      obtain ⟨x11_25, ex11_25, h⟩ := lt_at h
      refine q_top ex11_25 ?_
      refine lv_istore (lv' := [(11, .int x11_25), (10, .int x10_24), (0, .ref (E.2.1 (0))), (1, .int x1), (2, .int x2), (3, .int x3), (4, .int x4), (5, .int x5), (6, .int x6), (7, .int x7), (8, .int x8), (9, .int x9)]) hx hb dX11_ridge_78 hl (by decide) rfl (fun ls hl => ?_)
      refine lv_iload hx hb dX11_ridge_80 (lv_at hl 11 rfl) ?_
      refine lv_iconst (v := 4) hx hb dX11_ridge_82 (by decide) ?_
      refine q_irem hx hb dX11_ridge_83 (by decide) ?_
      obtain ⟨x12_26, ex12_26, h⟩ := lt_at h
      refine q_top ex12_26 ?_
      refine lv_istore (lv' := [(12, .int x12_26), (11, .int x11_25), (10, .int x10_24), (0, .ref (E.2.1 (0))), (1, .int x1), (2, .int x2), (3, .int x3), (4, .int x4), (5, .int x5), (6, .int x6), (7, .int x7), (8, .int x8), (9, .int x9)]) hx hb dX11_ridge_84 hl (by decide) rfl (fun ls hl => ?_)
      refine lv_iconst (v := 0) hx hb dX11_ridge_86 (by decide) ?_
      refine lv_iload hx hb dX11_ridge_87 (lv_at hl 7 rfl) ?_
      refine lv_iload hx hb dX11_ridge_89 (lv_at hl 2 rfl) ?_
      refine lv_isub hx hb dX11_ridge_91 ?_
      refine q_max C hl.1 kw_901 (Nat.le_of_ble_eq_true rfl) (Nat.le_of_ble_eq_true rfl) (Nat.le_of_ble_eq_true rfl) ⟨Nat.zero_le _, Nat.zero_le _⟩ dX11_ridge_92 ?_
      obtain ⟨x13_27, ex13_27, h⟩ := lt_at h
      refine q_top ex13_27 ?_
      refine lv_istore (lv' := [(13, .int x13_27), (12, .int x12_26), (11, .int x11_25), (10, .int x10_24), (0, .ref (E.2.1 (0))), (1, .int x1), (2, .int x2), (3, .int x3), (4, .int x4), (5, .int x5), (6, .int x6), (7, .int x7), (8, .int x8), (9, .int x9)]) hx hb dX11_ridge_95 hl (by decide) rfl (fun ls hl => ?_)
      refine lv_iconst (v := 0) hx hb dX11_ridge_97 (by decide) ?_
      refine lv_iload hx hb dX11_ridge_98 (lv_at hl 8 rfl) ?_
      refine lv_iload hx hb dX11_ridge_100 (lv_at hl 3 rfl) ?_
      refine lv_isub hx hb dX11_ridge_102 ?_
      refine lv_iload hx hb dX11_ridge_103 (lv_at hl 2 rfl) ?_
      refine lv_isub hx hb dX11_ridge_105 ?_
      refine q_max C hl.1 kw_901 (Nat.le_of_ble_eq_true rfl) (Nat.le_of_ble_eq_true rfl) (Nat.le_of_ble_eq_true rfl) ⟨Nat.zero_le _, Nat.zero_le _⟩ dX11_ridge_106 ?_
      obtain ⟨x14_28, ex14_28, h⟩ := lt_at h
      refine q_top ex14_28 ?_
      refine lv_istore (lv' := [(14, .int x14_28), (13, .int x13_27), (12, .int x12_26), (11, .int x11_25), (10, .int x10_24), (0, .ref (E.2.1 (0))), (1, .int x1), (2, .int x2), (3, .int x3), (4, .int x4), (5, .int x5), (6, .int x6), (7, .int x7), (8, .int x8), (9, .int x9)]) hx hb dX11_ridge_109 hl (by decide) rfl (fun ls hl => ?_)
      refine lv_aload_n hx hb dX11_ridge_111 rfl (lv_at hl 5 rfl) ?_
      refine lv_iload_n hx hb dX11_ridge_112 rfl (lv_at hl 6 rfl) ?_
      refine lv_iload hx hb dX11_ridge_113 (lv_at hl 9 rfl) ?_
      refine lv_iload hx hb dX11_ridge_115 (lv_at hl 4 rfl) ?_
      obtain ⟨r_29, σ_30, h_31, h⟩ := bd_at h
      refine q_afterI hw (q_runV C hw hl.1 (As := [.int x1, .int x4, .int x10_24]) (rest := []) (m_X11_ground l E x1 x4 x10_24 σ r_29 σ_30 h_31) yq_X11_ground tC_0 rfl rfl kw_902 ⟨Nat.le_of_ble_eq_true rfl, Nat.le_of_ble_eq_true rfl⟩ rfl (Nat.le_of_ble_eq_true rfl) ⟨Nat.zero_le _, Nat.zero_le _⟩ dX11_ridge_117) (fun H locs hw => ?_)
      refine lv_aload_n hx hb dX11_ridge_120 rfl (lv_at hl 5 rfl) ?_
      refine lv_iload_n hx hb dX11_ridge_121 rfl (lv_at hl 7 rfl) ?_
      refine lv_iload hx hb dX11_ridge_122 (lv_at hl 1 rfl) ?_
      refine lv_iload hx hb dX11_ridge_124 (lv_at hl 3 rfl) ?_
      obtain ⟨r_32, σ_33, h_34, h⟩ := bd_at h
      refine q_afterI hw (q_runV C hw hl.1 (As := [.int x2, .int x13_27, .int x11_25]) (rest := [.int r_29]) (m_X11_ground l E x2 x13_27 x11_25 σ_30 r_32 σ_33 h_34) yq_X11_ground tC_0 rfl rfl kw_902 ⟨Nat.le_of_ble_eq_true rfl, Nat.le_of_ble_eq_true rfl⟩ rfl (Nat.le_of_ble_eq_true rfl) ⟨Nat.zero_le _, Nat.zero_le _⟩ dX11_ridge_126) (fun H locs hw => ?_)
      refine lv_iadd hx hb dX11_ridge_129 ?_
      refine lv_aload_n hx hb dX11_ridge_130 rfl (lv_at hl 5 rfl) ?_
      refine lv_iload_n hx hb dX11_ridge_131 rfl (lv_at hl 8 rfl) ?_
      refine lv_iload hx hb dX11_ridge_132 (lv_at hl 0 rfl) ?_
      refine lv_iload hx hb dX11_ridge_134 (lv_at hl 2 rfl) ?_
      obtain ⟨r_35, σ_36, h_37, h⟩ := bd_at h
      refine q_afterI hw (q_runV C hw hl.1 (As := [.int x3, .int x14_28, .int x12_26]) (rest := [.int (r_29 + r_32)]) (m_X11_ground l E x3 x14_28 x12_26 σ_33 r_35 σ_36 h_37) yq_X11_ground tC_0 rfl rfl kw_902 ⟨Nat.le_of_ble_eq_true rfl, Nat.le_of_ble_eq_true rfl⟩ rfl (Nat.le_of_ble_eq_true rfl) ⟨Nat.zero_le _, Nat.zero_le _⟩ dX11_ridge_136) (fun H locs hw => ?_)
      refine lv_iadd hx hb dX11_ridge_139 ?_
      obtain ⟨x15_38, ex15_38, h⟩ := lt_at h
      refine q_top ex15_38 ?_
      refine lv_istore (lv' := [(15, .int x15_38), (14, .int x14_28), (13, .int x13_27), (12, .int x12_26), (11, .int x11_25), (10, .int x10_24), (0, .ref (E.2.1 (0))), (1, .int x1), (2, .int x2), (3, .int x3), (4, .int x4), (5, .int x5), (6, .int x6), (7, .int x7), (8, .int x8), (9, .int x9)]) hx hb dX11_ridge_140 hl (by decide) rfl (fun ls hl => ?_)
      refine lv_iload hx hb dX11_ridge_142 (lv_at hl 12 rfl) ?_
      refine lv_iload hx hb dX11_ridge_144 (lv_at hl 0 rfl) ?_
      refine q_max C hl.1 kw_901 (Nat.le_of_ble_eq_true rfl) (Nat.le_of_ble_eq_true rfl) (Nat.le_of_ble_eq_true rfl) ⟨Nat.zero_le _, Nat.zero_le _⟩ dX11_ridge_146 ?_
      obtain ⟨x6_39, ex6_39, h⟩ := lt_at h
      refine q_top ex6_39 ?_
      refine lv_istore (lv' := [(6, .int x6_39), (15, .int x15_38), (14, .int x14_28), (13, .int x13_27), (12, .int x12_26), (11, .int x11_25), (10, .int x10_24), (0, .ref (E.2.1 (0))), (1, .int x1), (2, .int x2), (3, .int x3), (4, .int x4), (5, .int x5), (7, .int x7), (8, .int x8), (9, .int x9)]) hx hb dX11_ridge_149 hl (by decide) rfl (fun ls hl => ?_)
      refine lv_iload hx hb dX11_ridge_151 (lv_at hl 13 rfl) ?_
      refine lv_bipush (v := (-5)) hx hb dX11_ridge_153 (by decide) ?_
      refine lv_icmp_ne (tgt := 214) hx hb dX11_ridge_155 (by decide) (fun c_40 => ?_) (fun c_40 => ?_)
      · replace h := ie_at h c_40
        exact w_X11_ridge_214 C _ hk58 _ _ _ _ _ _ _ _ _ _ _ _ _ hw (lv_sub hl [7, 8, 9, 10, 11, 12, 0, 13, 14, 15] rfl) h
      · replace h := it_at h c_40
        refine lv_aload_n hx hb dX11_ridge_158 rfl (lv_at hl 7 rfl) ?_
        refine lv_iload_n hx hb dX11_ridge_159 rfl (lv_at hl 8 rfl) ?_
        refine lv_iload hx hb dX11_ridge_160 (lv_at hl 11 rfl) ?_
        refine lv_iload hx hb dX11_ridge_162 (lv_at hl 6 rfl) ?_
        obtain ⟨r_41, σ_42, h_43, h⟩ := bd_at h
        refine q_afterI hw (q_runV C hw hl.1 (As := [.int x1, .int x4, .int x10_24]) (rest := []) (m_X11_rests l E x1 x4 x10_24 σ_36 r_41 σ_42 h_43) yq_X11_rests tC_0 rfl rfl kw_906 ⟨Nat.le_of_ble_eq_true rfl, Nat.le_of_ble_eq_true rfl⟩ rfl (Nat.le_of_ble_eq_true rfl) ⟨Nat.zero_le _, Nat.zero_le _⟩ dX11_ridge_164) (fun H locs hw => ?_)
        refine lv_if_eq (tgt := 214) hx hb dX11_ridge_167 (by decide) (fun c_44 => ?_) (fun c_44 => ?_)
        · replace h := it_at h c_44
          exact w_X11_ridge_214 C _ hk58 _ _ _ _ _ _ _ _ _ _ _ _ _ hw (lv_sub hl [7, 8, 9, 10, 11, 12, 0, 13, 14, 15] rfl) h
        · replace h := ie_at h c_44
          refine lv_aload_n hx hb dX11_ridge_170 rfl (lv_at hl 7 rfl) ?_
          refine lv_iload_n hx hb dX11_ridge_171 rfl (lv_at hl 9 rfl) ?_
          refine lv_iload hx hb dX11_ridge_172 (lv_at hl 3 rfl) ?_
          refine lv_iload hx hb dX11_ridge_174 (lv_at hl 5 rfl) ?_
          obtain ⟨r_45, σ_46, h_47, h⟩ := bd_at h
          refine q_afterI hw (q_runV C hw hl.1 (As := [.int x2, .int x13_27, .int x11_25]) (rest := []) (m_X11_rests l E x2 x13_27 x11_25 σ_42 r_45 σ_46 h_47) yq_X11_rests tC_0 rfl rfl kw_906 ⟨Nat.le_of_ble_eq_true rfl, Nat.le_of_ble_eq_true rfl⟩ rfl (Nat.le_of_ble_eq_true rfl) ⟨Nat.zero_le _, Nat.zero_le _⟩ dX11_ridge_176) (fun H locs hw => ?_)
          refine lv_if_eq (tgt := 214) hx hb dX11_ridge_179 (by decide) (fun c_48 => ?_) (fun c_48 => ?_)
          · replace h := it_at h c_48
            exact w_X11_ridge_214 C _ hk58 _ _ _ _ _ _ _ _ _ _ _ _ _ hw (lv_sub hl [7, 8, 9, 10, 11, 12, 0, 13, 14, 15] rfl) h
          · replace h := ie_at h c_48
            refine lv_aload_n hx hb dX11_ridge_182 rfl (lv_at hl 7 rfl) ?_
            refine lv_iload_n hx hb dX11_ridge_183 rfl (lv_at hl 10 rfl) ?_
            refine lv_iload hx hb dX11_ridge_184 (lv_at hl 2 rfl) ?_
            refine lv_iload hx hb dX11_ridge_186 (lv_at hl 4 rfl) ?_
            obtain ⟨r_49, σ_50, h_51, h⟩ := bd_at h
            refine q_afterI hw (q_runV C hw hl.1 (As := [.int x3, .int x14_28, .int x12_26]) (rest := []) (m_X11_rests l E x3 x14_28 x12_26 σ_46 r_49 σ_50 h_51) yq_X11_rests tC_0 rfl rfl kw_906 ⟨Nat.le_of_ble_eq_true rfl, Nat.le_of_ble_eq_true rfl⟩ rfl (Nat.le_of_ble_eq_true rfl) ⟨Nat.zero_le _, Nat.zero_le _⟩ dX11_ridge_188) (fun H locs hw => ?_)
            refine lv_if_eq (tgt := 214) hx hb dX11_ridge_191 (by decide) (fun c_52 => ?_) (fun c_52 => ?_)
            · replace h := it_at h c_52
              exact w_X11_ridge_214 C _ hk58 _ _ _ _ _ _ _ _ _ _ _ _ _ hw (lv_sub hl [7, 8, 9, 10, 11, 12, 0, 13, 14, 15] rfl) h
            · replace h := ie_at h c_52
              refine lv_bipush (v := 100) hx hb dX11_ridge_194 (by decide) ?_
              refine lv_iload hx hb dX11_ridge_196 (lv_at hl 6 rfl) ?_
              refine lv_imul hx hb dX11_ridge_198 ?_
              refine lv_bipush (v := 10) hx hb dX11_ridge_199 (by decide) ?_
              refine lv_iload hx hb dX11_ridge_201 (lv_at hl 5 rfl) ?_
              refine lv_imul hx hb dX11_ridge_203 ?_
              refine lv_iadd hx hb dX11_ridge_204 ?_
              refine lv_iload hx hb dX11_ridge_205 (lv_at hl 4 rfl) ?_
              refine lv_iadd hx hb dX11_ridge_207 ?_
              obtain ⟨x7_53, ex7_53, h⟩ := lt_at h
              refine q_top ex7_53 ?_
              refine lv_istore (lv' := [(7, .int x7_53), (6, .int x6_39), (15, .int x15_38), (14, .int x14_28), (13, .int x13_27), (12, .int x12_26), (11, .int x11_25), (10, .int x10_24), (0, .ref (E.2.1 (0))), (1, .int x1), (2, .int x2), (3, .int x3), (4, .int x4), (5, .int x5), (8, .int x8), (9, .int x9)]) hx hb dX11_ridge_208 hl (by decide) rfl (fun ls hl => ?_)
              refine lv_iload hx hb dX11_ridge_210 (lv_at hl 2 rfl) ?_
              refine lv_istore (lv' := [(8, .int x15_38), (7, .int x7_53), (6, .int x6_39), (15, .int x15_38), (14, .int x14_28), (13, .int x13_27), (12, .int x12_26), (11, .int x11_25), (10, .int x10_24), (0, .ref (E.2.1 (0))), (1, .int x1), (2, .int x2), (3, .int x3), (4, .int x4), (5, .int x5), (9, .int x9)]) hx hb dX11_ridge_212 hl (by decide) rfl (fun ls hl => ?_)
              exact w_X11_ridge_214 C _ hk58 _ _ _ _ _ _ _ _ _ _ _ _ _ hw (lv_sub hl [9, 10, 11, 12, 13, 14, 2, 1, 0, 15] rfl) h
set_option maxHeartbeats 4000000 in
set_option maxRecDepth 100000 in
theorem m_X11_ridge (l : Launch) (E : EV) (p1 : Int32) (p2 : Int32) (p3 : Int32) (p4 : Int32) (p5 : Int32) (σ : Mem) (rr : Int32) (τ : Mem) (h : f_X11_ridge p1 p2 p3 p4 p5 σ = some (rr, τ)) : MI TC l E yX11_ridge cX11_ridge 16 (some .int) 5 127 [.ref (E.2.1 (0)), .int p1, .int p2, .int p3, .int p4, .int p5] σ rr τ := by
  refine mt_start RX11 (by decide +kernel) rfl (Nat.le_of_ble_eq_true rfl) (fun p e s m args below meth c ls C hw hl => ?_)
  replace hl : lv_has ls 16 [(0, .ref (E.2.1 (0))), (1, .int p1), (2, .int p2), (3, .int p3), (4, .int p4), (5, .int p5)] := hl
  obtain ⟨hx, hb, hml, hown, hts, hK, hSt, hlk, hr⟩ := id C
  unfold f_X11_ridge at h
  refine lv_aload_n hx hb dX11_ridge_0 rfl (lv_at hl 0 rfl) ?_
  refine lv_iload_n hx hb dX11_ridge_1 rfl (lv_at hl 1 rfl) ?_
  obtain ⟨r_1, σ_2, h_3, h⟩ := bd_at h
  refine q_afterI hw (q_runV C hw hl.1 (As := [.int p1]) (rest := []) (m_X11_isMill l E p1 σ r_1 σ_2 h_3) yq_X11_isMill tC_0 rfl rfl kw_612 ⟨Nat.le_of_ble_eq_true rfl, Nat.le_of_ble_eq_true rfl⟩ rfl (Nat.le_of_ble_eq_true rfl) ⟨Nat.zero_le _, Nat.zero_le _⟩ dX11_ridge_2) (fun H locs hw => ?_)
  refine lv_if_eq (tgt := 42) hx hb dX11_ridge_5 (by decide) (fun c_4 => ?_) (fun c_4 => ?_)
  · replace h := it_at h c_4
    refine lv_iconst (v := (-1)) hx hb dX11_ridge_42 (by decide) ?_
    obtain ⟨rfl, rfl⟩ := ret_at h
    exact q_iret C hw dX11_ridge_43
  · replace h := ie_at h c_4
    refine lv_aload_n hx hb dX11_ridge_8 rfl (lv_at hl 0 rfl) ?_
    refine lv_iload_n hx hb dX11_ridge_9 rfl (lv_at hl 2 rfl) ?_
    obtain ⟨r_5, σ_6, h_7, h⟩ := bd_at h
    refine q_afterI hw (q_runV C hw hl.1 (As := [.int p2]) (rest := []) (m_X11_isMill l E p2 σ_2 r_5 σ_6 h_7) yq_X11_isMill tC_0 rfl rfl kw_612 ⟨Nat.le_of_ble_eq_true rfl, Nat.le_of_ble_eq_true rfl⟩ rfl (Nat.le_of_ble_eq_true rfl) ⟨Nat.zero_le _, Nat.zero_le _⟩ dX11_ridge_10) (fun H locs hw => ?_)
    refine lv_if_eq (tgt := 42) hx hb dX11_ridge_13 (by decide) (fun c_8 => ?_) (fun c_8 => ?_)
    · replace h := it_at h c_8
      refine lv_iconst (v := (-1)) hx hb dX11_ridge_42 (by decide) ?_
      obtain ⟨rfl, rfl⟩ := ret_at h
      exact q_iret C hw dX11_ridge_43
    · replace h := ie_at h c_8
      refine lv_aload_n hx hb dX11_ridge_16 rfl (lv_at hl 0 rfl) ?_
      refine lv_iload_n hx hb dX11_ridge_17 rfl (lv_at hl 3 rfl) ?_
      obtain ⟨r_9, σ_10, h_11, h⟩ := bd_at h
      refine q_afterI hw (q_runV C hw hl.1 (As := [.int p3]) (rest := []) (m_X11_isMill l E p3 σ_6 r_9 σ_10 h_11) yq_X11_isMill tC_0 rfl rfl kw_612 ⟨Nat.le_of_ble_eq_true rfl, Nat.le_of_ble_eq_true rfl⟩ rfl (Nat.le_of_ble_eq_true rfl) ⟨Nat.zero_le _, Nat.zero_le _⟩ dX11_ridge_18) (fun H locs hw => ?_)
      refine lv_if_eq (tgt := 42) hx hb dX11_ridge_21 (by decide) (fun c_12 => ?_) (fun c_12 => ?_)
      · replace h := it_at h c_12
        refine lv_iconst (v := (-1)) hx hb dX11_ridge_42 (by decide) ?_
        obtain ⟨rfl, rfl⟩ := ret_at h
        exact q_iret C hw dX11_ridge_43
      · replace h := ie_at h c_12
        refine lv_iload hx hb dX11_ridge_24 (lv_at hl 4 rfl) ?_
        obtain ⟨r_13, σ_14, h_15, h⟩ := bd_at h
        refine q_afterI hw (q_runS C hw hl.1 (As := [.int p4]) (rest := []) (m_X11_isWind l E p4 σ_10 r_13 σ_14 h_15) yq_X11_isWind kw_616 ⟨Nat.le_of_ble_eq_true rfl, Nat.le_of_ble_eq_true rfl⟩ rfl (Nat.le_of_ble_eq_true rfl) ⟨Nat.zero_le _, Nat.zero_le _⟩ dX11_ridge_26) (fun H locs hw => ?_)
        refine lv_if_eq (tgt := 42) hx hb dX11_ridge_29 (by decide) (fun c_16 => ?_) (fun c_16 => ?_)
        · replace h := it_at h c_16
          refine lv_iconst (v := (-1)) hx hb dX11_ridge_42 (by decide) ?_
          obtain ⟨rfl, rfl⟩ := ret_at h
          exact q_iret C hw dX11_ridge_43
        · replace h := ie_at h c_16
          refine lv_iload hx hb dX11_ridge_32 (lv_at hl 5 rfl) ?_
          refine lv_iconst (v := 0) hx hb dX11_ridge_34 (by decide) ?_
          refine lv_iconst (v := 1) hx hb dX11_ridge_35 (by decide) ?_
          obtain ⟨r_17, σ_18, h_19, h⟩ := bd_at h
          refine q_afterI hw (q_runS C hw hl.1 (As := [.int p5, .int (0 : Int32), .int (1 : Int32)]) (rest := []) (m_X11_within l E p5 (0 : Int32) (1 : Int32) σ_14 r_17 σ_18 h_19) yq_X11_within kw_427 ⟨Nat.le_of_ble_eq_true rfl, Nat.le_of_ble_eq_true rfl⟩ rfl (Nat.le_of_ble_eq_true rfl) ⟨Nat.zero_le _, Nat.zero_le _⟩ dX11_ridge_36) (fun H locs hw => ?_)
          refine lv_if_ne (tgt := 44) hx hb dX11_ridge_39 (by decide) (fun c_20 => ?_) (fun c_20 => ?_)
          · replace h := ie_at h c_20
            refine lv_bipush (v := (-3)) hx hb dX11_ridge_44 (by decide) ?_
            refine lv_istore (lv' := [(6, .int (-3 : Int32)), (0, .ref (E.2.1 (0))), (1, .int p1), (2, .int p2), (3, .int p3), (4, .int p4), (5, .int p5)]) hx hb dX11_ridge_46 hl (by decide) rfl (fun ls hl => ?_)
            refine lv_bipush (v := (-5)) hx hb dX11_ridge_48 (by decide) ?_
            refine lv_istore (lv' := [(7, .int (-5 : Int32)), (6, .int (-3 : Int32)), (0, .ref (E.2.1 (0))), (1, .int p1), (2, .int p2), (3, .int p3), (4, .int p4), (5, .int p5)]) hx hb dX11_ridge_50 hl (by decide) rfl (fun ls hl => ?_)
            refine lv_iconst (v := 0) hx hb dX11_ridge_52 (by decide) ?_
            refine lv_istore (lv' := [(8, .int (0 : Int32)), (7, .int (-5 : Int32)), (6, .int (-3 : Int32)), (0, .ref (E.2.1 (0))), (1, .int p1), (2, .int p2), (3, .int p3), (4, .int p4), (5, .int p5)]) hx hb dX11_ridge_53 hl (by decide) rfl (fun ls hl => ?_)
            refine lv_iconst (v := 0) hx hb dX11_ridge_55 (by decide) ?_
            refine lv_istore (lv' := [(9, .int (0 : Int32)), (8, .int (0 : Int32)), (7, .int (-5 : Int32)), (6, .int (-3 : Int32)), (0, .ref (E.2.1 (0))), (1, .int p1), (2, .int p2), (3, .int p3), (4, .int p4), (5, .int p5)]) hx hb dX11_ridge_56 hl (by decide) rfl (fun ls hl => ?_)
            exact w_X11_ridge_58 C _ _ _ _ _ _ _ _ _ _ _ _ _ _ hw (lv_sub hl [4, 5, 6, 7, 8, 9, 3, 2, 1, 0] rfl) h
          · replace h := it_at h c_20
            refine lv_iconst (v := (-1)) hx hb dX11_ridge_42 (by decide) ?_
            obtain ⟨rfl, rfl⟩ := ret_at h
            exact q_iret C hw dX11_ridge_43
def f_X11_row (p1 : Int32) (p2 : Int32) (σ : Mem) : Option (Int32 × Mem) :=
  bd (f_X11_isRule p1 σ) fun r_1 σ_2 =>
  if r_1 = 0 then
    (some ((-1 : Int32), σ_2))
  else
    bd (f_X11_isSetting p2 σ_2) fun r_5 σ_6 =>
    if r_5 = 0 then
      (some ((-2 : Int32), σ_6))
    else
      gd (ib p1 10) <|
      if (gI σ_6 9 p1.toNatClampNeg) = (6 : Int32) then
        (gd (ib p1 10) <|
        if (gI σ_6 11 p1.toNatClampNeg) < (10 : Int32) then
          (bd (f_X7_appendToRow p1 p2 σ_6) fun r_13 σ_14 =>
          some (r_13, σ_14))
        else
          some ((-4 : Int32), σ_6))
      else
        some ((-3 : Int32), σ_6)
set_option maxHeartbeats 4000000 in
set_option maxRecDepth 100000 in
theorem m_X11_row (l : Launch) (E : EV) (p1 : Int32) (p2 : Int32) (σ : Mem) (rr : Int32) (τ : Mem) (h : f_X11_row p1 p2 σ = some (rr, τ)) : MI TC l E yX11_row cX11_row 3 (some .int) 2 43 [.ref (E.2.1 (0)), .int p1, .int p2] σ rr τ := by
  refine mt_start RX11 (by decide +kernel) rfl (Nat.le_of_ble_eq_true rfl) (fun p e s m args below meth c ls C hw hl => ?_)
  replace hl : lv_has ls 3 [(0, .ref (E.2.1 (0))), (1, .int p1), (2, .int p2)] := hl
  obtain ⟨hx, hb, hml, hown, hts, hK, hSt, hlk, hr⟩ := id C
  unfold f_X11_row at h
  refine lv_aload_n hx hb dX11_row_0 rfl (lv_at hl 0 rfl) ?_
  refine lv_iload_n hx hb dX11_row_1 rfl (lv_at hl 1 rfl) ?_
  obtain ⟨r_1, σ_2, h_3, h⟩ := bd_at h
  refine q_afterI hw (q_runV C hw hl.1 (As := [.int p1]) (rest := []) (m_X11_isRule l E p1 σ r_1 σ_2 h_3) yq_X11_isRule tC_0 rfl rfl kw_729 ⟨Nat.le_of_ble_eq_true rfl, Nat.le_of_ble_eq_true rfl⟩ rfl (Nat.le_of_ble_eq_true rfl) ⟨Nat.zero_le _, Nat.zero_le _⟩ dX11_row_2) (fun H locs hw => ?_)
  refine lv_if_ne (tgt := 10) hx hb dX11_row_5 (by decide) (fun c_4 => ?_) (fun c_4 => ?_)
  · replace h := ie_at h c_4
    refine lv_iload_n hx hb dX11_row_10 rfl (lv_at hl 2 rfl) ?_
    obtain ⟨r_5, σ_6, h_7, h⟩ := bd_at h
    refine q_afterI hw (q_runS C hw hl.1 (As := [.int p2]) (rest := []) (m_X11_isSetting l E p2 σ_2 r_5 σ_6 h_7) yq_X11_isSetting kw_619 ⟨Nat.le_of_ble_eq_true rfl, Nat.le_of_ble_eq_true rfl⟩ rfl (Nat.le_of_ble_eq_true rfl) ⟨Nat.zero_le _, Nat.zero_le _⟩ dX11_row_11) (fun H locs hw => ?_)
    refine lv_if_ne (tgt := 20) hx hb dX11_row_14 (by decide) (fun c_8 => ?_) (fun c_8 => ?_)
    · replace h := ie_at h c_8
      refine lv_aload_n hx hb dX11_row_20 rfl (lv_at hl 0 rfl) ?_
      refine gf_11_1 C hw tC_0 kw_402 dX11_row_21 ?_
      refine gf_8_4 C hw tC_2 kw_250 (c1 := 8) rfl dX11_row_24 ?_
      refine gf_7_0 C hw tC_8 kw_180 (c1 := 9) rfl dX11_row_27 ?_
      refine lv_iload_n hx hb dX11_row_30 rfl (lv_at hl 1 rfl) ?_
      obtain ⟨g_9, h⟩ := gd_at h
      refine q_iald C hw tC_9 g_9 dX11_row_31 ?_
      refine lv_bipush (v := 6) hx hb dX11_row_32 (by decide) ?_
      refine lv_icmp_eq (tgt := 40) hx hb dX11_row_34 (by decide) (fun c_10 => ?_) (fun c_10 => ?_)
      · replace h := it_at h c_10
        refine lv_aload_n hx hb dX11_row_40 rfl (lv_at hl 0 rfl) ?_
        refine gf_11_1 C hw tC_0 kw_402 dX11_row_41 ?_
        refine gf_8_4 C hw tC_2 kw_250 (c1 := 8) rfl dX11_row_44 ?_
        refine gf_7_2 C hw tC_8 kw_186 (c1 := 11) rfl dX11_row_47 ?_
        refine lv_iload_n hx hb dX11_row_50 rfl (lv_at hl 1 rfl) ?_
        obtain ⟨g_11, h⟩ := gd_at h
        refine q_iald C hw tC_11 g_11 dX11_row_51 ?_
        refine lv_bipush (v := 10) hx hb dX11_row_52 (by decide) ?_
        refine lv_icmp_lt (tgt := 60) hx hb dX11_row_54 (by decide) (fun c_12 => ?_) (fun c_12 => ?_)
        · replace h := it_at h c_12
          refine lv_aload_n hx hb dX11_row_60 rfl (lv_at hl 0 rfl) ?_
          refine gf_11_1 C hw tC_0 kw_402 dX11_row_61 ?_
          refine gf_8_4 C hw tC_2 kw_250 (c1 := 8) rfl dX11_row_64 ?_
          refine lv_iload_n hx hb dX11_row_67 rfl (lv_at hl 1 rfl) ?_
          refine lv_iload_n hx hb dX11_row_68 rfl (lv_at hl 2 rfl) ?_
          obtain ⟨r_13, σ_14, h_15, h⟩ := bd_at h
          refine q_afterI hw (q_runV C hw hl.1 (As := [.int p1, .int p2]) (rest := []) (m_X7_appendToRow l E p1 p2 σ_6 r_13 σ_14 h_15) yq_X7_appendToRow tC_8 rfl rfl kw_733 ⟨Nat.le_of_ble_eq_true rfl, Nat.le_of_ble_eq_true rfl⟩ rfl (Nat.le_of_ble_eq_true rfl) ⟨Nat.zero_le _, Nat.zero_le _⟩ dX11_row_69) (fun H locs hw => ?_)
          obtain ⟨rfl, rfl⟩ := ret_at h
          exact q_iret C hw dX11_row_72
        · replace h := ie_at h c_12
          refine lv_bipush (v := (-4)) hx hb dX11_row_57 (by decide) ?_
          obtain ⟨rfl, rfl⟩ := ret_at h
          exact q_iret C hw dX11_row_59
      · replace h := ie_at h c_10
        refine lv_bipush (v := (-3)) hx hb dX11_row_37 (by decide) ?_
        obtain ⟨rfl, rfl⟩ := ret_at h
        exact q_iret C hw dX11_row_39
    · replace h := it_at h c_8
      refine lv_bipush (v := (-2)) hx hb dX11_row_17 (by decide) ?_
      obtain ⟨rfl, rfl⟩ := ret_at h
      exact q_iret C hw dX11_row_19
  · replace h := it_at h c_4
    refine lv_iconst (v := (-1)) hx hb dX11_row_8 (by decide) ?_
    obtain ⟨rfl, rfl⟩ := ret_at h
    exact q_iret C hw dX11_row_9
def f_X11_rule (p1 : Int32) (p2 : Int32) (σ : Mem) : Option (Int32 × Mem) :=
  bd (f_X11_within p1 (0 : Int32) (6 : Int32) σ) fun r_1 σ_2 =>
  if r_1 = 0 then
    (some ((-1 : Int32), σ_2))
  else
    bd (f_X11_within p2 (0 : Int32) (7 : Int32) σ_2) fun r_5 σ_6 =>
    if r_5 = 0 then
      (some ((-2 : Int32), σ_6))
    else
      if (gI σ_6 8 4) < (10 : Int32) then
        (bd (f_X7_append p1 p2 σ_6) fun r_10 σ_11 =>
        some (r_10, σ_11))
      else
        some ((-4 : Int32), σ_6)
set_option maxHeartbeats 4000000 in
set_option maxRecDepth 100000 in
theorem m_X11_rule (l : Launch) (E : EV) (p1 : Int32) (p2 : Int32) (σ : Mem) (rr : Int32) (τ : Mem) (h : f_X11_rule p1 p2 σ = some (rr, τ)) : MI TC l E yX11_rule cX11_rule 3 (some .int) 1 22 [.ref (E.2.1 (0)), .int p1, .int p2] σ rr τ := by
  refine mt_start RX11 (by decide +kernel) rfl (Nat.le_of_ble_eq_true rfl) (fun p e s m args below meth c ls C hw hl => ?_)
  replace hl : lv_has ls 3 [(0, .ref (E.2.1 (0))), (1, .int p1), (2, .int p2)] := hl
  obtain ⟨hx, hb, hml, hown, hts, hK, hSt, hlk, hr⟩ := id C
  unfold f_X11_rule at h
  refine lv_iload_n hx hb dX11_rule_0 rfl (lv_at hl 1 rfl) ?_
  refine lv_iconst (v := 0) hx hb dX11_rule_1 (by decide) ?_
  refine lv_bipush (v := 6) hx hb dX11_rule_2 (by decide) ?_
  obtain ⟨r_1, σ_2, h_3, h⟩ := bd_at h
  refine q_afterI hw (q_runS C hw hl.1 (As := [.int p1, .int (0 : Int32), .int (6 : Int32)]) (rest := []) (m_X11_within l E p1 (0 : Int32) (6 : Int32) σ r_1 σ_2 h_3) yq_X11_within kw_427 ⟨Nat.le_of_ble_eq_true rfl, Nat.le_of_ble_eq_true rfl⟩ rfl (Nat.le_of_ble_eq_true rfl) ⟨Nat.zero_le _, Nat.zero_le _⟩ dX11_rule_4) (fun H locs hw => ?_)
  refine lv_if_ne (tgt := 12) hx hb dX11_rule_7 (by decide) (fun c_4 => ?_) (fun c_4 => ?_)
  · replace h := ie_at h c_4
    refine lv_iload_n hx hb dX11_rule_12 rfl (lv_at hl 2 rfl) ?_
    refine lv_iconst (v := 0) hx hb dX11_rule_13 (by decide) ?_
    refine lv_bipush (v := 7) hx hb dX11_rule_14 (by decide) ?_
    obtain ⟨r_5, σ_6, h_7, h⟩ := bd_at h
    refine q_afterI hw (q_runS C hw hl.1 (As := [.int p2, .int (0 : Int32), .int (7 : Int32)]) (rest := []) (m_X11_within l E p2 (0 : Int32) (7 : Int32) σ_2 r_5 σ_6 h_7) yq_X11_within kw_427 ⟨Nat.le_of_ble_eq_true rfl, Nat.le_of_ble_eq_true rfl⟩ rfl (Nat.le_of_ble_eq_true rfl) ⟨Nat.zero_le _, Nat.zero_le _⟩ dX11_rule_16) (fun H locs hw => ?_)
    refine lv_if_ne (tgt := 25) hx hb dX11_rule_19 (by decide) (fun c_8 => ?_) (fun c_8 => ?_)
    · replace h := ie_at h c_8
      refine lv_aload_n hx hb dX11_rule_25 rfl (lv_at hl 0 rfl) ?_
      refine gf_11_1 C hw tC_0 kw_402 dX11_rule_26 ?_
      refine gf_8_4 C hw tC_2 kw_250 (c1 := 8) rfl dX11_rule_29 ?_
      refine gf_7_4 C hw tC_8 kw_189 dX11_rule_32 ?_
      refine lv_bipush (v := 10) hx hb dX11_rule_35 (by decide) ?_
      refine lv_icmp_lt (tgt := 43) hx hb dX11_rule_37 (by decide) (fun c_9 => ?_) (fun c_9 => ?_)
      · replace h := it_at h c_9
        refine lv_aload_n hx hb dX11_rule_43 rfl (lv_at hl 0 rfl) ?_
        refine gf_11_1 C hw tC_0 kw_402 dX11_rule_44 ?_
        refine gf_8_4 C hw tC_2 kw_250 (c1 := 8) rfl dX11_rule_47 ?_
        refine lv_iload_n hx hb dX11_rule_50 rfl (lv_at hl 1 rfl) ?_
        refine lv_iload_n hx hb dX11_rule_51 rfl (lv_at hl 2 rfl) ?_
        obtain ⟨r_10, σ_11, h_12, h⟩ := bd_at h
        refine q_afterI hw (q_runV C hw hl.1 (As := [.int p1, .int p2]) (rest := []) (m_X7_append l E p1 p2 σ_6 r_10 σ_11 h_12) yq_X7_append tC_8 rfl rfl kw_721 ⟨Nat.le_of_ble_eq_true rfl, Nat.le_of_ble_eq_true rfl⟩ rfl (Nat.le_of_ble_eq_true rfl) ⟨Nat.zero_le _, Nat.zero_le _⟩ dX11_rule_52) (fun H locs hw => ?_)
        obtain ⟨rfl, rfl⟩ := ret_at h
        exact q_iret C hw dX11_rule_55
      · replace h := ie_at h c_9
        refine lv_bipush (v := (-4)) hx hb dX11_rule_40 (by decide) ?_
        obtain ⟨rfl, rfl⟩ := ret_at h
        exact q_iret C hw dX11_rule_42
    · replace h := it_at h c_8
      refine lv_bipush (v := (-2)) hx hb dX11_rule_22 (by decide) ?_
      obtain ⟨rfl, rfl⟩ := ret_at h
      exact q_iret C hw dX11_rule_24
  · replace h := it_at h c_4
    refine lv_iconst (v := (-1)) hx hb dX11_rule_10 (by decide) ?_
    obtain ⟨rfl, rfl⟩ := ret_at h
    exact q_iret C hw dX11_rule_11
def f_X11_run_141 (k141 : Int32 → Int32 → Nat → Int32 → Int32 → Int32 → Int32 → Mem → Option (Int64 × Mem)) (x2 : Int32) (x3 : Int32) (o5 : Nat) (x6 : Int32) (x7 : Int32) (x8 : Int32) (x9 : Int32) (σ : Mem) : Option (Int64 × Mem) :=
  if x2 ≤ x9 then
    (some (((gI σ 7 4) - x6).toInt64, σ))
  else
    bd (f_X5_settingAt x9 (x2 - x9) x8 x7 (gI σ 7 2) (gI σ 7 3) σ) fun r_31 σ_32 =>
    bd (f_X2_goOn o5 x8 r_31 σ_32) fun r_34 σ_35 =>
    bd (f_X10_nextBy x8 (irm (((x3 * (31 : Int32)) + ((gI σ_35 7 1) * (17 : Int32))) * (7 : Int32)) (1000 : Int32)) σ_35) fun r_37 σ_38 =>
    lt (x9 + (1 : Int32)) fun x9_40 =>
    k141 x2 x3 o5 x6 x8 r_37 x9_40 σ_38
def f_X11_run (p1 : Int32) (p2 : Int32) (p3 : Int32) (p4 : Int32) (σ : Mem) : Option (Int64 × Mem) :=
  bd (f_X11_isRule p1 σ) fun r_1 σ_2 =>
  if r_1 = 0 then
    (some ((-9223372036854775808 : Int64), σ_2))
  else
    bd (f_X11_within p2 (1 : Int32) (30 : Int32) σ_2) fun r_5 σ_6 =>
    if r_5 = 0 then
      (some ((-9223372036854775808 : Int64), σ_6))
    else
      bd (f_X11_within p3 (0 : Int32) (999 : Int32) σ_6) fun r_9 σ_10 =>
      if r_9 = 0 then
        (some ((-9223372036854775808 : Int64), σ_10))
      else
        bd (f_X11_isWind p4 σ_10) fun r_13 σ_14 =>
        if r_13 = 0 then
          (some ((-9223372036854775808 : Int64), σ_14))
        else
          bd (f_X11_isLed σ_14) fun r_17 σ_18 =>
          if r_17 = 0 then
            (some ((-9223372036854775808 : Int64), σ_18))
          else
            if ((gI σ_18 7 1) + p2) ≤ (999 : Int32) then
              (gd (ib (gI σ_18 7 0) 5) <|
              bv (f_X5_begin (mo (gI σ_18 7 0).toNatClampNeg) σ_18) fun σ_24 =>
              bv (f_X5_followRule p1 σ_24) fun σ_27 =>
              lt (gI σ_27 7 4) fun x6_29 =>
              fx8 (f_X11_run_141) FU p2 p3 (mo (gI σ_18 7 0).toNatClampNeg) x6_29 p4 p4 (0 : Int32) σ_27)
            else
              some ((-9223372036854775808 : Int64), σ_18)
set_option maxHeartbeats 4000000 in
set_option maxRecDepth 100000 in
theorem w_X11_run_141 {p : Program} {l : Launch} {e : Env} {s : State} {m : MethodId} {args : Array Value} {below : List Frame} {meth : Method} {c : Code} {E : EV} {rr : Int64} {τ : Mem} (C : Cx E p s m args meth c cX11_run 11 (some .long) RX11) : ∀ (n : Nat) (x2 : Int32) (x3 : Int32) (o5 : Nat) (x6 : Int32) (x7 : Int32) (x8 : Int32) (x9 : Int32) (σ : Mem) (H : Heap) (locs : List Loc) (ls : Array Slot) (ho5 : MO o5) (hw : Wd TC E σ s H locs) (hl : lv_has ls 11 [(0, .ref (E.2.1 (0))), (2, .int x2), (3, .int x3), (5, .ref (E.2.1 o5)), (6, .int x6), (7, .int x7), (8, .int x8), (9, .int x9)]) (h : fx8 (f_X11_run_141) n x2 x3 o5 x6 x7 x8 x9 σ = some (rr, τ)), W p l e { frames := 92, cells := 0, slots := 0, locals := 2672 } s m args below meth c H locs 0 0 (MQ below (QL TC E rr τ) args s 0 0 E.2.2.1) (F0 m 141 ls []) := by
  obtain ⟨hx, hb, hml, hown, hts, hK, hSt, hlk, hr⟩ := id C
  intro n
  induction n with
  | zero =>
    intro x2 x3 o5 x6 x7 x8 x9 σ H locs ls ho5 hw hl h
    have h : none = some (rr, τ) := h
    cases h
  | succ n hk141 =>
    intro x2 x3 o5 x6 x7 x8 x9 σ H locs ls ho5 hw hl h
    replace h : f_X11_run_141 (fx8 (f_X11_run_141) n) x2 x3 o5 x6 x7 x8 x9 σ = some (rr, τ) := h
    unfold f_X11_run_141 at h
    refine lv_iload hx hb dX11_run_141 (lv_at hl 7 rfl) ?_
    refine lv_iload_n hx hb dX11_run_143 rfl (lv_at hl 1 rfl) ?_
    refine lv_icmp_ge (tgt := 252) hx hb dX11_run_144 (by decide) (fun c_30 => ?_) (fun c_30 => ?_)
    · replace h := it_at h c_30
      refine lv_aload_n hx hb dX11_run_252 rfl (lv_at hl 0 rfl) ?_
      refine gf_11_1 C hw tC_0 kw_402 dX11_run_253 ?_
      refine gf_8_3 C hw tC_2 kw_248 (c1 := 7) rfl dX11_run_256 ?_
      refine gf_2_4 C hw tC_7 kw_155 dX11_run_259 ?_
      refine lv_iload hx hb dX11_run_262 (lv_at hl 4 rfl) ?_
      refine lv_isub hx hb dX11_run_264 ?_
      refine lv_i2l hx hb dX11_run_265 rfl ?_
      obtain ⟨rfl, rfl⟩ := ret_at h
      exact q_lret C hw dX11_run_266
    · replace h := ie_at h c_30
      refine lv_aload_n hx hb dX11_run_147 rfl (lv_at hl 0 rfl) ?_
      refine gf_11_4 C hw tC_0 kw_405 dX11_run_148 ?_
      refine lv_iload hx hb dX11_run_151 (lv_at hl 7 rfl) ?_
      refine lv_iload_n hx hb dX11_run_153 rfl (lv_at hl 1 rfl) ?_
      refine lv_iload hx hb dX11_run_154 (lv_at hl 7 rfl) ?_
      refine lv_isub hx hb dX11_run_156 ?_
      refine lv_iload hx hb dX11_run_157 (lv_at hl 6 rfl) ?_
      refine lv_iload hx hb dX11_run_159 (lv_at hl 5 rfl) ?_
      refine lv_aload_n hx hb dX11_run_161 rfl (lv_at hl 0 rfl) ?_
      refine gf_11_1 C hw tC_0 kw_402 dX11_run_162 ?_
      refine gf_8_3 C hw tC_2 kw_248 (c1 := 7) rfl dX11_run_165 ?_
      refine gf_2_2 C hw tC_7 kw_151 dX11_run_168 ?_
      refine lv_aload_n hx hb dX11_run_171 rfl (lv_at hl 0 rfl) ?_
      refine gf_11_1 C hw tC_0 kw_402 dX11_run_172 ?_
      refine gf_8_3 C hw tC_2 kw_248 (c1 := 7) rfl dX11_run_175 ?_
      refine gf_2_3 C hw tC_7 kw_153 dX11_run_178 ?_
      obtain ⟨r_31, σ_32, h_33, h⟩ := bd_at h
      refine q_afterI hw (q_runV C hw hl.1 (As := [.int x9, .int (x2 - x9), .int x8, .int x7, .int (gI σ 7 2), .int (gI σ 7 3)]) (rest := []) (m_X5_settingAt l E x9 (x2 - x9) x8 x7 (gI σ 7 2) (gI σ 7 3) σ r_31 σ_32 h_33) yq_X5_settingAt tC_41 rfl rfl kw_749 ⟨Nat.le_of_ble_eq_true rfl, Nat.le_of_ble_eq_true rfl⟩ rfl (Nat.le_of_ble_eq_true rfl) ⟨Nat.zero_le _, Nat.zero_le _⟩ dX11_run_181) (fun H locs hw => ?_)
      refine lv_istore (lv' := [(10, .int r_31), (0, .ref (E.2.1 (0))), (2, .int x2), (3, .int x3), (5, .ref (E.2.1 o5)), (6, .int x6), (7, .int x7), (8, .int x8), (9, .int x9)]) hx hb dX11_run_184 hl (by decide) rfl (fun ls hl => ?_)
      refine lv_aload_n hx hb dX11_run_186 rfl (lv_at hl 1 rfl) ?_
      refine gf_11_1 C hw tC_0 kw_402 dX11_run_187 ?_
      refine gf_8_3 C hw tC_2 kw_248 (c1 := 7) rfl dX11_run_190 ?_
      refine lv_aload hx hb dX11_run_193 (lv_at hl 4 rfl) ?_
      refine lv_iload hx hb dX11_run_195 (lv_at hl 7 rfl) ?_
      refine lv_iload hx hb dX11_run_197 (lv_at hl 0 rfl) ?_
      obtain ⟨r_34, σ_35, h_36, h⟩ := bd_at h
      refine q_afterI hw (q_runV C hw hl.1 (As := [.ref (E.2.1 o5), .int x8, .int r_31]) (rest := []) (m_X2_goOn l E o5 ho5 x8 r_31 σ_32 r_34 σ_35 h_36) yq_X2_goOn tC_7 rfl rfl kw_707 ⟨Nat.le_of_ble_eq_true rfl, Nat.le_of_ble_eq_true rfl⟩ rfl (Nat.le_of_ble_eq_true rfl) ⟨Nat.zero_le _, Nat.zero_le _⟩ dX11_run_199) (fun H locs hw => ?_)
      refine lv_pop hx hb dX11_run_202 rfl ?_
      refine lv_iload hx hb dX11_run_203 (lv_at hl 7 rfl) ?_
      refine lv_istore (lv' := [(7, .int x8), (10, .int r_31), (0, .ref (E.2.1 (0))), (2, .int x2), (3, .int x3), (5, .ref (E.2.1 o5)), (6, .int x6), (8, .int x8), (9, .int x9)]) hx hb dX11_run_205 hl (by decide) rfl (fun ls hl => ?_)
      refine lv_aload_n hx hb dX11_run_207 rfl (lv_at hl 2 rfl) ?_
      refine gf_11_1 C hw tC_0 kw_402 dX11_run_208 ?_
      refine gf_8_2 C hw tC_2 kw_246 (c1 := 5) rfl dX11_run_211 ?_
      refine lv_iload hx hb dX11_run_214 (lv_at hl 7 rfl) ?_
      refine lv_iload_n hx hb dX11_run_216 rfl (lv_at hl 4 rfl) ?_
      refine lv_bipush (v := 31) hx hb dX11_run_217 (by decide) ?_
      refine lv_imul hx hb dX11_run_219 ?_
      refine lv_aload_n hx hb dX11_run_220 rfl (lv_at hl 2 rfl) ?_
      refine gf_11_1 C hw tC_0 kw_402 dX11_run_221 ?_
      refine gf_8_3 C hw tC_2 kw_248 (c1 := 7) rfl dX11_run_224 ?_
      refine gf_2_1 C hw tC_7 kw_149 dX11_run_227 ?_
      refine lv_bipush (v := 17) hx hb dX11_run_230 (by decide) ?_
      refine lv_imul hx hb dX11_run_232 ?_
      refine lv_iadd hx hb dX11_run_233 ?_
      refine lv_bipush (v := 7) hx hb dX11_run_234 (by decide) ?_
      refine lv_imul hx hb dX11_run_236 ?_
      refine lv_sipush (v := 1000) hx hb dX11_run_237 (by decide) ?_
      refine q_irem hx hb dX11_run_240 (by decide) ?_
      obtain ⟨r_37, σ_38, h_39, h⟩ := bd_at h
      refine q_afterI hw (q_runV C hw hl.1 (As := [.int x8, .int (irm (((x3 * (31 : Int32)) + ((gI σ_35 7 1) * (17 : Int32))) * (7 : Int32)) (1000 : Int32))]) (rest := []) (m_X10_nextBy l E x8 (irm (((x3 * (31 : Int32)) + ((gI σ_35 7 1) * (17 : Int32))) * (7 : Int32)) (1000 : Int32)) σ_35 r_37 σ_38 h_39) yq_X10_nextBy tC_5 rfl rfl kw_914 ⟨Nat.le_of_ble_eq_true rfl, Nat.le_of_ble_eq_true rfl⟩ rfl (Nat.le_of_ble_eq_true rfl) ⟨Nat.zero_le _, Nat.zero_le _⟩ dX11_run_241) (fun H locs hw => ?_)
      refine lv_istore (lv' := [(8, .int r_37), (7, .int x8), (10, .int r_31), (0, .ref (E.2.1 (0))), (2, .int x2), (3, .int x3), (5, .ref (E.2.1 o5)), (6, .int x6), (9, .int x9)]) hx hb dX11_run_244 hl (by decide) rfl (fun ls hl => ?_)
      obtain ⟨x9_40, ex9_40, h⟩ := lt_at h
      refine lv_iinc (v := x9_40) (lv' := [(9, .int x9_40), (8, .int r_37), (7, .int x8), (10, .int r_31), (0, .ref (E.2.1 (0))), (2, .int x2), (3, .int x3), (5, .ref (E.2.1 o5)), (6, .int x6)]) hx hb dX11_run_246 hl (k := 8) rfl (by rw [ex9_40]; rfl) (by decide) rfl (fun ls hl => ?_)
      refine lv_goto (tgt := 141) hx hb dX11_run_249 (by decide) ?_
      exact hk141 _ _ _ _ _ _ _ _ _ _ _ ho5 hw (lv_sub hl [4, 5, 6, 7, 8, 2, 1, 0] rfl) h
set_option maxHeartbeats 4000000 in
set_option maxRecDepth 100000 in
theorem m_X11_run (l : Launch) (E : EV) (p1 : Int32) (p2 : Int32) (p3 : Int32) (p4 : Int32) (σ : Mem) (rr : Int64) (τ : Mem) (h : f_X11_run p1 p2 p3 p4 σ = some (rr, τ)) : ML TC l E yX11_run cX11_run 11 (some .long) 92 2672 [.ref (E.2.1 (0)), .int p1, .int p2, .int p3, .int p4] σ rr τ := by
  refine mt_start RX11 (by decide +kernel) rfl (Nat.le_of_ble_eq_true rfl) (fun p e s m args below meth c ls C hw hl => ?_)
  replace hl : lv_has ls 11 [(0, .ref (E.2.1 (0))), (1, .int p1), (2, .int p2), (3, .int p3), (4, .int p4)] := hl
  obtain ⟨hx, hb, hml, hown, hts, hK, hSt, hlk, hr⟩ := id C
  unfold f_X11_run at h
  refine lv_aload_n hx hb dX11_run_0 rfl (lv_at hl 0 rfl) ?_
  refine lv_iload_n hx hb dX11_run_1 rfl (lv_at hl 1 rfl) ?_
  obtain ⟨r_1, σ_2, h_3, h⟩ := bd_at h
  refine q_afterI hw (q_runV C hw hl.1 (As := [.int p1]) (rest := []) (m_X11_isRule l E p1 σ r_1 σ_2 h_3) yq_X11_isRule tC_0 rfl rfl kw_729 ⟨Nat.le_of_ble_eq_true rfl, Nat.le_of_ble_eq_true rfl⟩ rfl (Nat.le_of_ble_eq_true rfl) ⟨Nat.zero_le _, Nat.zero_le _⟩ dX11_run_2) (fun H locs hw => ?_)
  refine lv_if_eq (tgt := 37) hx hb dX11_run_5 (by decide) (fun c_4 => ?_) (fun c_4 => ?_)
  · replace h := it_at h c_4
    refine lv_ldc2 hx hb hown (hts _ kw_790) dX11_run_37 ?_
    obtain ⟨rfl, rfl⟩ := ret_at h
    exact q_lret C hw dX11_run_40
  · replace h := ie_at h c_4
    refine lv_iload_n hx hb dX11_run_8 rfl (lv_at hl 2 rfl) ?_
    refine lv_iconst (v := 1) hx hb dX11_run_9 (by decide) ?_
    refine lv_bipush (v := 30) hx hb dX11_run_10 (by decide) ?_
    obtain ⟨r_5, σ_6, h_7, h⟩ := bd_at h
    refine q_afterI hw (q_runS C hw hl.1 (As := [.int p2, .int (1 : Int32), .int (30 : Int32)]) (rest := []) (m_X11_within l E p2 (1 : Int32) (30 : Int32) σ_2 r_5 σ_6 h_7) yq_X11_within kw_427 ⟨Nat.le_of_ble_eq_true rfl, Nat.le_of_ble_eq_true rfl⟩ rfl (Nat.le_of_ble_eq_true rfl) ⟨Nat.zero_le _, Nat.zero_le _⟩ dX11_run_12) (fun H locs hw => ?_)
    refine lv_if_eq (tgt := 37) hx hb dX11_run_15 (by decide) (fun c_8 => ?_) (fun c_8 => ?_)
    · replace h := it_at h c_8
      refine lv_ldc2 hx hb hown (hts _ kw_790) dX11_run_37 ?_
      obtain ⟨rfl, rfl⟩ := ret_at h
      exact q_lret C hw dX11_run_40
    · replace h := ie_at h c_8
      refine lv_iload_n hx hb dX11_run_18 rfl (lv_at hl 3 rfl) ?_
      refine lv_iconst (v := 0) hx hb dX11_run_19 (by decide) ?_
      refine lv_sipush (v := 999) hx hb dX11_run_20 (by decide) ?_
      obtain ⟨r_9, σ_10, h_11, h⟩ := bd_at h
      refine q_afterI hw (q_runS C hw hl.1 (As := [.int p3, .int (0 : Int32), .int (999 : Int32)]) (rest := []) (m_X11_within l E p3 (0 : Int32) (999 : Int32) σ_6 r_9 σ_10 h_11) yq_X11_within kw_427 ⟨Nat.le_of_ble_eq_true rfl, Nat.le_of_ble_eq_true rfl⟩ rfl (Nat.le_of_ble_eq_true rfl) ⟨Nat.zero_le _, Nat.zero_le _⟩ dX11_run_23) (fun H locs hw => ?_)
      refine lv_if_eq (tgt := 37) hx hb dX11_run_26 (by decide) (fun c_12 => ?_) (fun c_12 => ?_)
      · replace h := it_at h c_12
        refine lv_ldc2 hx hb hown (hts _ kw_790) dX11_run_37 ?_
        obtain ⟨rfl, rfl⟩ := ret_at h
        exact q_lret C hw dX11_run_40
      · replace h := ie_at h c_12
        refine lv_iload hx hb dX11_run_29 (lv_at hl 4 rfl) ?_
        obtain ⟨r_13, σ_14, h_15, h⟩ := bd_at h
        refine q_afterI hw (q_runS C hw hl.1 (As := [.int p4]) (rest := []) (m_X11_isWind l E p4 σ_10 r_13 σ_14 h_15) yq_X11_isWind kw_616 ⟨Nat.le_of_ble_eq_true rfl, Nat.le_of_ble_eq_true rfl⟩ rfl (Nat.le_of_ble_eq_true rfl) ⟨Nat.zero_le _, Nat.zero_le _⟩ dX11_run_31) (fun H locs hw => ?_)
        refine lv_if_ne (tgt := 41) hx hb dX11_run_34 (by decide) (fun c_16 => ?_) (fun c_16 => ?_)
        · replace h := ie_at h c_16
          refine lv_aload_n hx hb dX11_run_41 rfl (lv_at hl 0 rfl) ?_
          obtain ⟨r_17, σ_18, h_19, h⟩ := bd_at h
          refine q_afterI hw (q_runV C hw hl.1 (As := []) (rest := []) (m_X11_isLed l E  σ_14 r_17 σ_18 h_19) yq_X11_isLed tC_0 rfl rfl kw_699 ⟨Nat.le_of_ble_eq_true rfl, Nat.le_of_ble_eq_true rfl⟩ rfl (Nat.le_of_ble_eq_true rfl) ⟨Nat.zero_le _, Nat.zero_le _⟩ dX11_run_42) (fun H locs hw => ?_)
          refine lv_if_eq (tgt := 66) hx hb dX11_run_45 (by decide) (fun c_20 => ?_) (fun c_20 => ?_)
          · replace h := it_at h c_20
            refine lv_ldc2 hx hb hown (hts _ kw_790) dX11_run_66 ?_
            obtain ⟨rfl, rfl⟩ := ret_at h
            exact q_lret C hw dX11_run_69
          · replace h := ie_at h c_20
            refine lv_aload_n hx hb dX11_run_48 rfl (lv_at hl 0 rfl) ?_
            refine gf_11_1 C hw tC_0 kw_402 dX11_run_49 ?_
            refine gf_8_3 C hw tC_2 kw_248 (c1 := 7) rfl dX11_run_52 ?_
            refine gf_2_1 C hw tC_7 kw_149 dX11_run_55 ?_
            refine lv_iload_n hx hb dX11_run_58 rfl (lv_at hl 2 rfl) ?_
            refine lv_iadd hx hb dX11_run_59 ?_
            refine lv_sipush (v := 999) hx hb dX11_run_60 (by decide) ?_
            refine lv_icmp_le (tgt := 70) hx hb dX11_run_63 (by decide) (fun c_21 => ?_) (fun c_21 => ?_)
            · replace h := it_at h c_21
              refine lv_aload_n hx hb dX11_run_70 rfl (lv_at hl 0 rfl) ?_
              refine gf_11_0 C hw tC_0 kw_401 dX11_run_71 ?_
              refine lv_aload_n hx hb dX11_run_74 rfl (lv_at hl 0 rfl) ?_
              refine gf_11_1 C hw tC_0 kw_402 dX11_run_75 ?_
              refine gf_8_3 C hw tC_2 kw_248 (c1 := 7) rfl dX11_run_78 ?_
              refine gf_2_0 C hw tC_7 kw_147 dX11_run_81 ?_
              obtain ⟨g_22, h⟩ := gd_at h
              refine q_aald C hw g_22 dX11_run_84 ?_
              refine lv_astore (lv' := [(5, .ref (E.2.1 (mo (gI σ_18 7 0).toNatClampNeg))), (0, .ref (E.2.1 (0))), (1, .int p1), (2, .int p2), (3, .int p3), (4, .int p4)]) hx hb dX11_run_85 hl (by decide) rfl (fun ls hl => ?_)
              refine lv_aload_n hx hb dX11_run_87 rfl (lv_at hl 1 rfl) ?_
              refine gf_11_4 C hw tC_0 kw_405 dX11_run_88 ?_
              refine lv_aload hx hb dX11_run_91 (lv_at hl 0 rfl) ?_
              refine lv_aload_n hx hb dX11_run_93 rfl (lv_at hl 1 rfl) ?_
              refine gf_11_1 C hw tC_0 kw_402 dX11_run_94 ?_
              refine gf_8_2 C hw tC_2 kw_246 (c1 := 5) rfl dX11_run_97 ?_
              obtain ⟨σ_24, h_25, h⟩ := bv_at h
              refine q_afterV hw (q_runV C hw hl.1 (As := [.ref (E.2.1 (mo (gI σ_18 7 0).toNatClampNeg)), .ref (E.2.1 (5))]) (rest := []) (m_X5_begin l E (mo (gI σ_18 7 0).toNatClampNeg) (MO.of_ib g_22) σ_18 σ_24 h_25) yq_X5_begin tC_41 rfl rfl kw_741 ⟨Nat.le_of_ble_eq_true rfl, Nat.le_of_ble_eq_true rfl⟩ rfl (Nat.le_of_ble_eq_true rfl) ⟨Nat.zero_le _, Nat.zero_le _⟩ dX11_run_100) (fun H locs hw => ?_)
              refine lv_aload_n hx hb dX11_run_103 rfl (lv_at hl 1 rfl) ?_
              refine gf_11_4 C hw tC_0 kw_405 dX11_run_104 ?_
              refine lv_aload_n hx hb dX11_run_107 rfl (lv_at hl 1 rfl) ?_
              refine gf_11_1 C hw tC_0 kw_402 dX11_run_108 ?_
              refine gf_8_4 C hw tC_2 kw_250 (c1 := 8) rfl dX11_run_111 ?_
              refine lv_iload_n hx hb dX11_run_114 rfl (lv_at hl 2 rfl) ?_
              obtain ⟨σ_27, h_28, h⟩ := bv_at h
              refine q_afterV hw (q_runV C hw hl.1 (As := [.ref (E.2.1 (8)), .int p1]) (rest := []) (m_X5_followRule l E p1 σ_24 σ_27 h_28) yq_X5_followRule tC_41 rfl rfl kw_745 ⟨Nat.le_of_ble_eq_true rfl, Nat.le_of_ble_eq_true rfl⟩ rfl (Nat.le_of_ble_eq_true rfl) ⟨Nat.zero_le _, Nat.zero_le _⟩ dX11_run_115) (fun H locs hw => ?_)
              refine lv_aload_n hx hb dX11_run_118 rfl (lv_at hl 1 rfl) ?_
              refine gf_11_1 C hw tC_0 kw_402 dX11_run_119 ?_
              refine gf_8_3 C hw tC_2 kw_248 (c1 := 7) rfl dX11_run_122 ?_
              refine gf_2_4 C hw tC_7 kw_155 dX11_run_125 ?_
              obtain ⟨x6_29, ex6_29, h⟩ := lt_at h
              refine q_top ex6_29 ?_
              refine lv_istore (lv' := [(6, .int x6_29), (5, .ref (E.2.1 (mo (gI σ_18 7 0).toNatClampNeg))), (0, .ref (E.2.1 (0))), (1, .int p1), (2, .int p2), (3, .int p3), (4, .int p4)]) hx hb dX11_run_128 hl (by decide) rfl (fun ls hl => ?_)
              refine lv_iload hx hb dX11_run_130 (lv_at hl 6 rfl) ?_
              refine lv_istore (lv' := [(7, .int p4), (6, .int x6_29), (5, .ref (E.2.1 (mo (gI σ_18 7 0).toNatClampNeg))), (0, .ref (E.2.1 (0))), (1, .int p1), (2, .int p2), (3, .int p3), (4, .int p4)]) hx hb dX11_run_132 hl (by decide) rfl (fun ls hl => ?_)
              refine lv_iload hx hb dX11_run_134 (lv_at hl 7 rfl) ?_
              refine lv_istore (lv' := [(8, .int p4), (7, .int p4), (6, .int x6_29), (5, .ref (E.2.1 (mo (gI σ_18 7 0).toNatClampNeg))), (0, .ref (E.2.1 (0))), (1, .int p1), (2, .int p2), (3, .int p3), (4, .int p4)]) hx hb dX11_run_136 hl (by decide) rfl (fun ls hl => ?_)
              refine lv_iconst (v := 0) hx hb dX11_run_138 (by decide) ?_
              refine lv_istore (lv' := [(9, .int (0 : Int32)), (8, .int p4), (7, .int p4), (6, .int x6_29), (5, .ref (E.2.1 (mo (gI σ_18 7 0).toNatClampNeg))), (0, .ref (E.2.1 (0))), (1, .int p1), (2, .int p2), (3, .int p3), (4, .int p4)]) hx hb dX11_run_139 hl (by decide) rfl (fun ls hl => ?_)
              exact w_X11_run_141 C _ _ _ _ _ _ _ _ _ _ _ _ (MO.of_ib g_22) hw (lv_sub hl [5, 7, 8, 4, 3, 2, 1, 0] rfl) h
            · replace h := ie_at h c_21
              refine lv_ldc2 hx hb hown (hts _ kw_790) dX11_run_66 ?_
              obtain ⟨rfl, rfl⟩ := ret_at h
              exact q_lret C hw dX11_run_69
        · replace h := it_at h c_16
          refine lv_ldc2 hx hb hown (hts _ kw_790) dX11_run_37 ?_
          obtain ⟨rfl, rfl⟩ := ret_at h
          exact q_lret C hw dX11_run_40
def f_X11_sets (p1 : Int32) (p2 : Int32) (p3 : Int32) (p4 : Int32) (p5 : Int32) (σ : Mem) : Option (Int32 × Mem) :=
  bd (f_X11_isRule p1 σ) fun r_1 σ_2 =>
  if r_1 = 0 then
    (some ((-1 : Int32), σ_2))
  else
    bd (f_X11_isWind p4 σ_2) fun r_5 σ_6 =>
    if r_5 = 0 then
      (some ((-1 : Int32), σ_6))
    else
      bd (f_X11_isWind p5 σ_6) fun r_9 σ_10 =>
      if r_9 = 0 then
        (some ((-1 : Int32), σ_10))
      else
        bd (f_X11_within p2 (0 : Int32) (9 : Int32) σ_10) fun r_13 σ_14 =>
        if r_13 = 0 then
          (some ((-2 : Int32), σ_14))
        else
          bd (f_X11_within p3 (1 : Int32) (6 : Int32) σ_14) fun r_17 σ_18 =>
          if r_17 = 0 then
            (some ((-2 : Int32), σ_18))
          else
            bd (f_X11_isLed σ_18) fun r_21 σ_22 =>
            if r_21 = 0 then
              (some ((-3 : Int32), σ_22))
            else
              gd (ib (gI σ_22 7 0) 5) <|
              bv (f_X5_begin (mo (gI σ_22 7 0).toNatClampNeg) σ_22) fun σ_27 =>
              bv (f_X5_followRule p1 σ_27) fun σ_30 =>
              bd (f_X5_settingAt p2 p3 p4 p5 (gI σ_30 7 2) (gI σ_30 7 3) σ_30) fun r_32 σ_33 =>
              some (r_32, σ_33)
set_option maxHeartbeats 4000000 in
set_option maxRecDepth 100000 in
theorem m_X11_sets (l : Launch) (E : EV) (p1 : Int32) (p2 : Int32) (p3 : Int32) (p4 : Int32) (p5 : Int32) (σ : Mem) (rr : Int32) (τ : Mem) (h : f_X11_sets p1 p2 p3 p4 p5 σ = some (rr, τ)) : MI TC l E yX11_sets cX11_sets 6 (some .int) 92 2672 [.ref (E.2.1 (0)), .int p1, .int p2, .int p3, .int p4, .int p5] σ rr τ := by
  refine mt_start RX11 (by decide +kernel) rfl (Nat.le_of_ble_eq_true rfl) (fun p e s m args below meth c ls C hw hl => ?_)
  replace hl : lv_has ls 6 [(0, .ref (E.2.1 (0))), (1, .int p1), (2, .int p2), (3, .int p3), (4, .int p4), (5, .int p5)] := hl
  obtain ⟨hx, hb, hml, hown, hts, hK, hSt, hlk, hr⟩ := id C
  unfold f_X11_sets at h
  refine lv_aload_n hx hb dX11_sets_0 rfl (lv_at hl 0 rfl) ?_
  refine lv_iload_n hx hb dX11_sets_1 rfl (lv_at hl 1 rfl) ?_
  obtain ⟨r_1, σ_2, h_3, h⟩ := bd_at h
  refine q_afterI hw (q_runV C hw hl.1 (As := [.int p1]) (rest := []) (m_X11_isRule l E p1 σ r_1 σ_2 h_3) yq_X11_isRule tC_0 rfl rfl kw_729 ⟨Nat.le_of_ble_eq_true rfl, Nat.le_of_ble_eq_true rfl⟩ rfl (Nat.le_of_ble_eq_true rfl) ⟨Nat.zero_le _, Nat.zero_le _⟩ dX11_sets_2) (fun H locs hw => ?_)
  refine lv_if_eq (tgt := 24) hx hb dX11_sets_5 (by decide) (fun c_4 => ?_) (fun c_4 => ?_)
  · replace h := it_at h c_4
    refine lv_iconst (v := (-1)) hx hb dX11_sets_24 (by decide) ?_
    obtain ⟨rfl, rfl⟩ := ret_at h
    exact q_iret C hw dX11_sets_25
  · replace h := ie_at h c_4
    refine lv_iload hx hb dX11_sets_8 (lv_at hl 4 rfl) ?_
    obtain ⟨r_5, σ_6, h_7, h⟩ := bd_at h
    refine q_afterI hw (q_runS C hw hl.1 (As := [.int p4]) (rest := []) (m_X11_isWind l E p4 σ_2 r_5 σ_6 h_7) yq_X11_isWind kw_616 ⟨Nat.le_of_ble_eq_true rfl, Nat.le_of_ble_eq_true rfl⟩ rfl (Nat.le_of_ble_eq_true rfl) ⟨Nat.zero_le _, Nat.zero_le _⟩ dX11_sets_10) (fun H locs hw => ?_)
    refine lv_if_eq (tgt := 24) hx hb dX11_sets_13 (by decide) (fun c_8 => ?_) (fun c_8 => ?_)
    · replace h := it_at h c_8
      refine lv_iconst (v := (-1)) hx hb dX11_sets_24 (by decide) ?_
      obtain ⟨rfl, rfl⟩ := ret_at h
      exact q_iret C hw dX11_sets_25
    · replace h := ie_at h c_8
      refine lv_iload hx hb dX11_sets_16 (lv_at hl 5 rfl) ?_
      obtain ⟨r_9, σ_10, h_11, h⟩ := bd_at h
      refine q_afterI hw (q_runS C hw hl.1 (As := [.int p5]) (rest := []) (m_X11_isWind l E p5 σ_6 r_9 σ_10 h_11) yq_X11_isWind kw_616 ⟨Nat.le_of_ble_eq_true rfl, Nat.le_of_ble_eq_true rfl⟩ rfl (Nat.le_of_ble_eq_true rfl) ⟨Nat.zero_le _, Nat.zero_le _⟩ dX11_sets_18) (fun H locs hw => ?_)
      refine lv_if_ne (tgt := 26) hx hb dX11_sets_21 (by decide) (fun c_12 => ?_) (fun c_12 => ?_)
      · replace h := ie_at h c_12
        refine lv_iload_n hx hb dX11_sets_26 rfl (lv_at hl 2 rfl) ?_
        refine lv_iconst (v := 0) hx hb dX11_sets_27 (by decide) ?_
        refine lv_bipush (v := 9) hx hb dX11_sets_28 (by decide) ?_
        obtain ⟨r_13, σ_14, h_15, h⟩ := bd_at h
        refine q_afterI hw (q_runS C hw hl.1 (As := [.int p2, .int (0 : Int32), .int (9 : Int32)]) (rest := []) (m_X11_within l E p2 (0 : Int32) (9 : Int32) σ_10 r_13 σ_14 h_15) yq_X11_within kw_427 ⟨Nat.le_of_ble_eq_true rfl, Nat.le_of_ble_eq_true rfl⟩ rfl (Nat.le_of_ble_eq_true rfl) ⟨Nat.zero_le _, Nat.zero_le _⟩ dX11_sets_30) (fun H locs hw => ?_)
        refine lv_if_eq (tgt := 46) hx hb dX11_sets_33 (by decide) (fun c_16 => ?_) (fun c_16 => ?_)
        · replace h := it_at h c_16
          refine lv_bipush (v := (-2)) hx hb dX11_sets_46 (by decide) ?_
          obtain ⟨rfl, rfl⟩ := ret_at h
          exact q_iret C hw dX11_sets_48
        · replace h := ie_at h c_16
          refine lv_iload_n hx hb dX11_sets_36 rfl (lv_at hl 3 rfl) ?_
          refine lv_iconst (v := 1) hx hb dX11_sets_37 (by decide) ?_
          refine lv_bipush (v := 6) hx hb dX11_sets_38 (by decide) ?_
          obtain ⟨r_17, σ_18, h_19, h⟩ := bd_at h
          refine q_afterI hw (q_runS C hw hl.1 (As := [.int p3, .int (1 : Int32), .int (6 : Int32)]) (rest := []) (m_X11_within l E p3 (1 : Int32) (6 : Int32) σ_14 r_17 σ_18 h_19) yq_X11_within kw_427 ⟨Nat.le_of_ble_eq_true rfl, Nat.le_of_ble_eq_true rfl⟩ rfl (Nat.le_of_ble_eq_true rfl) ⟨Nat.zero_le _, Nat.zero_le _⟩ dX11_sets_40) (fun H locs hw => ?_)
          refine lv_if_ne (tgt := 49) hx hb dX11_sets_43 (by decide) (fun c_20 => ?_) (fun c_20 => ?_)
          · replace h := ie_at h c_20
            refine lv_aload_n hx hb dX11_sets_49 rfl (lv_at hl 0 rfl) ?_
            obtain ⟨r_21, σ_22, h_23, h⟩ := bd_at h
            refine q_afterI hw (q_runV C hw hl.1 (As := []) (rest := []) (m_X11_isLed l E  σ_18 r_21 σ_22 h_23) yq_X11_isLed tC_0 rfl rfl kw_699 ⟨Nat.le_of_ble_eq_true rfl, Nat.le_of_ble_eq_true rfl⟩ rfl (Nat.le_of_ble_eq_true rfl) ⟨Nat.zero_le _, Nat.zero_le _⟩ dX11_sets_50) (fun H locs hw => ?_)
            refine lv_if_ne (tgt := 59) hx hb dX11_sets_53 (by decide) (fun c_24 => ?_) (fun c_24 => ?_)
            · replace h := ie_at h c_24
              refine lv_aload_n hx hb dX11_sets_59 rfl (lv_at hl 0 rfl) ?_
              refine gf_11_4 C hw tC_0 kw_405 dX11_sets_60 ?_
              refine lv_aload_n hx hb dX11_sets_63 rfl (lv_at hl 0 rfl) ?_
              refine gf_11_0 C hw tC_0 kw_401 dX11_sets_64 ?_
              refine lv_aload_n hx hb dX11_sets_67 rfl (lv_at hl 0 rfl) ?_
              refine gf_11_1 C hw tC_0 kw_402 dX11_sets_68 ?_
              refine gf_8_3 C hw tC_2 kw_248 (c1 := 7) rfl dX11_sets_71 ?_
              refine gf_2_0 C hw tC_7 kw_147 dX11_sets_74 ?_
              obtain ⟨g_25, h⟩ := gd_at h
              refine q_aald C hw g_25 dX11_sets_77 ?_
              refine lv_aload_n hx hb dX11_sets_78 rfl (lv_at hl 0 rfl) ?_
              refine gf_11_1 C hw tC_0 kw_402 dX11_sets_79 ?_
              refine gf_8_2 C hw tC_2 kw_246 (c1 := 5) rfl dX11_sets_82 ?_
              obtain ⟨σ_27, h_28, h⟩ := bv_at h
              refine q_afterV hw (q_runV C hw hl.1 (As := [.ref (E.2.1 (mo (gI σ_22 7 0).toNatClampNeg)), .ref (E.2.1 (5))]) (rest := []) (m_X5_begin l E (mo (gI σ_22 7 0).toNatClampNeg) (MO.of_ib g_25) σ_22 σ_27 h_28) yq_X5_begin tC_41 rfl rfl kw_741 ⟨Nat.le_of_ble_eq_true rfl, Nat.le_of_ble_eq_true rfl⟩ rfl (Nat.le_of_ble_eq_true rfl) ⟨Nat.zero_le _, Nat.zero_le _⟩ dX11_sets_85) (fun H locs hw => ?_)
              refine lv_aload_n hx hb dX11_sets_88 rfl (lv_at hl 0 rfl) ?_
              refine gf_11_4 C hw tC_0 kw_405 dX11_sets_89 ?_
              refine lv_aload_n hx hb dX11_sets_92 rfl (lv_at hl 0 rfl) ?_
              refine gf_11_1 C hw tC_0 kw_402 dX11_sets_93 ?_
              refine gf_8_4 C hw tC_2 kw_250 (c1 := 8) rfl dX11_sets_96 ?_
              refine lv_iload_n hx hb dX11_sets_99 rfl (lv_at hl 1 rfl) ?_
              obtain ⟨σ_30, h_31, h⟩ := bv_at h
              refine q_afterV hw (q_runV C hw hl.1 (As := [.ref (E.2.1 (8)), .int p1]) (rest := []) (m_X5_followRule l E p1 σ_27 σ_30 h_31) yq_X5_followRule tC_41 rfl rfl kw_745 ⟨Nat.le_of_ble_eq_true rfl, Nat.le_of_ble_eq_true rfl⟩ rfl (Nat.le_of_ble_eq_true rfl) ⟨Nat.zero_le _, Nat.zero_le _⟩ dX11_sets_100) (fun H locs hw => ?_)
              refine lv_aload_n hx hb dX11_sets_103 rfl (lv_at hl 0 rfl) ?_
              refine gf_11_4 C hw tC_0 kw_405 dX11_sets_104 ?_
              refine lv_iload_n hx hb dX11_sets_107 rfl (lv_at hl 2 rfl) ?_
              refine lv_iload_n hx hb dX11_sets_108 rfl (lv_at hl 3 rfl) ?_
              refine lv_iload hx hb dX11_sets_109 (lv_at hl 4 rfl) ?_
              refine lv_iload hx hb dX11_sets_111 (lv_at hl 5 rfl) ?_
              refine lv_aload_n hx hb dX11_sets_113 rfl (lv_at hl 0 rfl) ?_
              refine gf_11_1 C hw tC_0 kw_402 dX11_sets_114 ?_
              refine gf_8_3 C hw tC_2 kw_248 (c1 := 7) rfl dX11_sets_117 ?_
              refine gf_2_2 C hw tC_7 kw_151 dX11_sets_120 ?_
              refine lv_aload_n hx hb dX11_sets_123 rfl (lv_at hl 0 rfl) ?_
              refine gf_11_1 C hw tC_0 kw_402 dX11_sets_124 ?_
              refine gf_8_3 C hw tC_2 kw_248 (c1 := 7) rfl dX11_sets_127 ?_
              refine gf_2_3 C hw tC_7 kw_153 dX11_sets_130 ?_
              obtain ⟨r_32, σ_33, h_34, h⟩ := bd_at h
              refine q_afterI hw (q_runV C hw hl.1 (As := [.int p2, .int p3, .int p4, .int p5, .int (gI σ_30 7 2), .int (gI σ_30 7 3)]) (rest := []) (m_X5_settingAt l E p2 p3 p4 p5 (gI σ_30 7 2) (gI σ_30 7 3) σ_30 r_32 σ_33 h_34) yq_X5_settingAt tC_41 rfl rfl kw_749 ⟨Nat.le_of_ble_eq_true rfl, Nat.le_of_ble_eq_true rfl⟩ rfl (Nat.le_of_ble_eq_true rfl) ⟨Nat.zero_le _, Nat.zero_le _⟩ dX11_sets_133) (fun H locs hw => ?_)
              obtain ⟨rfl, rfl⟩ := ret_at h
              exact q_iret C hw dX11_sets_136
            · replace h := it_at h c_24
              refine lv_bipush (v := (-3)) hx hb dX11_sets_56 (by decide) ?_
              obtain ⟨rfl, rfl⟩ := ret_at h
              exact q_iret C hw dX11_sets_58
          · replace h := it_at h c_20
            refine lv_bipush (v := (-2)) hx hb dX11_sets_46 (by decide) ?_
            obtain ⟨rfl, rfl⟩ := ret_at h
            exact q_iret C hw dX11_sets_48
      · replace h := it_at h c_12
        refine lv_iconst (v := (-1)) hx hb dX11_sets_24 (by decide) ?_
        obtain ⟨rfl, rfl⟩ := ret_at h
        exact q_iret C hw dX11_sets_25
def f_X11_take (σ : Mem) : Option (Int32 × Mem) :=
  bd (f_X4_dearest σ) fun r_1 σ_2 =>
  some (r_1, σ_2)
set_option maxHeartbeats 4000000 in
set_option maxRecDepth 100000 in
theorem m_X11_take (l : Launch) (E : EV) (σ : Mem) (rr : Int32) (τ : Mem) (h : f_X11_take  σ = some (rr, τ)) : MI TC l E yX11_take cX11_take 1 (some .int) 2 49 [.ref (E.2.1 (0))] σ rr τ := by
  refine mt_start RX11 (by decide +kernel) rfl (Nat.le_of_ble_eq_true rfl) (fun p e s m args below meth c ls C hw hl => ?_)
  replace hl : lv_has ls 1 [(0, .ref (E.2.1 (0)))] := hl
  obtain ⟨hx, hb, hml, hown, hts, hK, hSt, hlk, hr⟩ := id C
  unfold f_X11_take at h
  refine lv_aload_n hx hb dX11_take_0 rfl (lv_at hl 0 rfl) ?_
  refine gf_11_1 C hw tC_0 kw_402 dX11_take_1 ?_
  refine gf_8_6 C hw tC_2 kw_254 (c1 := 16) rfl dX11_take_4 ?_
  obtain ⟨r_1, σ_2, h_3, h⟩ := bd_at h
  refine q_afterI hw (q_runV C hw hl.1 (As := []) (rest := []) (m_X4_dearest l E  σ r_1 σ_2 h_3) yq_X4_dearest tC_16 rfl rfl kw_880 ⟨Nat.le_of_ble_eq_true rfl, Nat.le_of_ble_eq_true rfl⟩ rfl (Nat.le_of_ble_eq_true rfl) ⟨Nat.zero_le _, Nat.zero_le _⟩ dX11_take_7) (fun H locs hw => ?_)
  obtain ⟨rfl, rfl⟩ := ret_at h
  exact q_iret C hw dX11_take_10
def f_X11_trace (p1 : Int32) (σ : Mem) : Option (Int32 × Mem) :=
  bd (f_X0_kept σ) fun r_1 σ_2 =>
  bd (f_X11_within p1 (0 : Int32) (r_1 - (1 : Int32)) σ_2) fun r_4 σ_5 =>
  if r_4 = 0 then
    (some ((-1 : Int32), σ_5))
  else
    gd (ib p1 20) <|
    some (gI σ_5 47 p1.toNatClampNeg, σ_5)
set_option maxHeartbeats 4000000 in
set_option maxRecDepth 100000 in
theorem m_X11_trace (l : Launch) (E : EV) (p1 : Int32) (σ : Mem) (rr : Int32) (τ : Mem) (h : f_X11_trace p1 σ = some (rr, τ)) : MI TC l E yX11_trace cX11_trace 2 (some .int) 2 41 [.ref (E.2.1 (0)), .int p1] σ rr τ := by
  refine mt_start RX11 (by decide +kernel) rfl (Nat.le_of_ble_eq_true rfl) (fun p e s m args below meth c ls C hw hl => ?_)
  replace hl : lv_has ls 2 [(0, .ref (E.2.1 (0))), (1, .int p1)] := hl
  obtain ⟨hx, hb, hml, hown, hts, hK, hSt, hlk, hr⟩ := id C
  unfold f_X11_trace at h
  refine lv_iload_n hx hb dX11_trace_0 rfl (lv_at hl 1 rfl) ?_
  refine lv_iconst (v := 0) hx hb dX11_trace_1 (by decide) ?_
  refine lv_aload_n hx hb dX11_trace_2 rfl (lv_at hl 0 rfl) ?_
  refine gf_11_5 C hw tC_0 kw_406 dX11_trace_3 ?_
  obtain ⟨r_1, σ_2, h_3, h⟩ := bd_at h
  refine q_afterI hw (q_runV C hw hl.1 (As := []) (rest := [.int (0 : Int32), .int p1]) (m_X0_kept l E  σ r_1 σ_2 h_3) yq_X0_kept tC_46 rfl rfl kw_953 ⟨Nat.le_of_ble_eq_true rfl, Nat.le_of_ble_eq_true rfl⟩ rfl (Nat.le_of_ble_eq_true rfl) ⟨Nat.zero_le _, Nat.zero_le _⟩ dX11_trace_6) (fun H locs hw => ?_)
  refine lv_iconst (v := 1) hx hb dX11_trace_9 (by decide) ?_
  refine lv_isub hx hb dX11_trace_10 ?_
  obtain ⟨r_4, σ_5, h_6, h⟩ := bd_at h
  refine q_afterI hw (q_runS C hw hl.1 (As := [.int p1, .int (0 : Int32), .int (r_1 - (1 : Int32))]) (rest := []) (m_X11_within l E p1 (0 : Int32) (r_1 - (1 : Int32)) σ_2 r_4 σ_5 h_6) yq_X11_within kw_427 ⟨Nat.le_of_ble_eq_true rfl, Nat.le_of_ble_eq_true rfl⟩ rfl (Nat.le_of_ble_eq_true rfl) ⟨Nat.zero_le _, Nat.zero_le _⟩ dX11_trace_11) (fun H locs hw => ?_)
  refine lv_if_eq (tgt := 29) hx hb dX11_trace_14 (by decide) (fun c_7 => ?_) (fun c_7 => ?_)
  · replace h := it_at h c_7
    refine lv_iconst (v := (-1)) hx hb dX11_trace_29 (by decide) ?_
    obtain ⟨rfl, rfl⟩ := ret_at h
    exact q_iret C hw dX11_trace_30
  · replace h := ie_at h c_7
    refine lv_aload_n hx hb dX11_trace_17 rfl (lv_at hl 0 rfl) ?_
    refine gf_11_5 C hw tC_0 kw_406 dX11_trace_18 ?_
    refine gf_0_0 C hw tC_46 kw_345 (c1 := 47) rfl dX11_trace_21 ?_
    refine lv_iload_n hx hb dX11_trace_24 rfl (lv_at hl 1 rfl) ?_
    obtain ⟨g_8, h⟩ := gd_at h
    refine q_iald C hw tC_47 g_8 dX11_trace_25 ?_
    refine lv_goto (tgt := 30) hx hb dX11_trace_26 (by decide) ?_
    obtain ⟨rfl, rfl⟩ := ret_at h
    exact q_iret C hw dX11_trace_30
def f_X11_undo (σ : Mem) : Option (Int32 × Mem) :=
  if (gI σ 0 6) = 0 then
    (some ((-3 : Int32), σ))
  else
    bv (f_X8_copyFroma σ) fun σ_3 =>
    bv (f_X5_forget σ_3) fun σ_6 =>
    some (gI σ_6 2 0, σ_6)
set_option maxHeartbeats 4000000 in
set_option maxRecDepth 100000 in
theorem m_X11_undo (l : Launch) (E : EV) (σ : Mem) (rr : Int32) (τ : Mem) (h : f_X11_undo  σ = some (rr, τ)) : MI TC l E yX11_undo cX11_undo 1 (some .int) 3 102 [.ref (E.2.1 (0))] σ rr τ := by
  refine mt_start RX11 (by decide +kernel) rfl (Nat.le_of_ble_eq_true rfl) (fun p e s m args below meth c ls C hw hl => ?_)
  replace hl : lv_has ls 1 [(0, .ref (E.2.1 (0)))] := hl
  obtain ⟨hx, hb, hml, hown, hts, hK, hSt, hlk, hr⟩ := id C
  unfold f_X11_undo at h
  refine lv_aload_n hx hb dX11_undo_0 rfl (lv_at hl 0 rfl) ?_
  refine gf_11_6 C hw tC_0 kw_407 dX11_undo_1 ?_
  refine lv_if_ne (tgt := 10) hx hb dX11_undo_4 (by decide) (fun c_1 => ?_) (fun c_1 => ?_)
  · replace h := ie_at h c_1
    refine lv_aload_n hx hb dX11_undo_10 rfl (lv_at hl 0 rfl) ?_
    refine gf_11_1 C hw tC_0 kw_402 dX11_undo_11 ?_
    refine lv_aload_n hx hb dX11_undo_14 rfl (lv_at hl 0 rfl) ?_
    refine gf_11_2 C hw tC_0 kw_403 dX11_undo_15 ?_
    obtain ⟨σ_3, h_4, h⟩ := bv_at h
    refine q_afterV hw (q_runV C hw hl.1 (As := [.ref (E.2.1 (21))]) (rest := []) (m_X8_copyFroma l E  σ σ_3 h_4) yq_X8_copyFrom tC_2 rfl rfl kw_970 ⟨Nat.le_of_ble_eq_true rfl, Nat.le_of_ble_eq_true rfl⟩ rfl (Nat.le_of_ble_eq_true rfl) ⟨Nat.zero_le _, Nat.zero_le _⟩ dX11_undo_18) (fun H locs hw => ?_)
    refine lv_aload_n hx hb dX11_undo_21 rfl (lv_at hl 0 rfl) ?_
    refine gf_11_4 C hw tC_0 kw_405 dX11_undo_22 ?_
    obtain ⟨σ_6, h_7, h⟩ := bv_at h
    refine q_afterV hw (q_runV C hw hl.1 (As := []) (rest := []) (m_X5_forget l E  σ_3 σ_6 h_7) yq_X5_forget tC_41 rfl rfl kw_675 ⟨Nat.le_of_ble_eq_true rfl, Nat.le_of_ble_eq_true rfl⟩ rfl (Nat.le_of_ble_eq_true rfl) ⟨Nat.zero_le _, Nat.zero_le _⟩ dX11_undo_25) (fun H locs hw => ?_)
    refine lv_aload_n hx hb dX11_undo_28 rfl (lv_at hl 0 rfl) ?_
    refine gf_11_1 C hw tC_0 kw_402 dX11_undo_29 ?_
    refine gf_8_0 C hw tC_2 kw_242 dX11_undo_32 ?_
    obtain ⟨rfl, rfl⟩ := ret_at h
    exact q_iret C hw dX11_undo_35
  · replace h := it_at h c_1
    refine lv_bipush (v := (-3)) hx hb dX11_undo_7 (by decide) ?_
    obtain ⟨rfl, rfl⟩ := ret_at h
    exact q_iret C hw dX11_undo_9
def f_X11_wind (p1 : Int32) (p2 : Int32) (p3 : Int32) (p4 : Int32) (p5 : Int32) (p6 : Int32) (σ : Mem) : Option (Int32 × Mem) :=
  bd (f_X11_isWind p1 σ) fun r_1 σ_2 =>
  if r_1 = 0 then
    (some ((-1 : Int32), σ_2))
  else
    bd (f_X11_isChance p2 σ_2) fun r_5 σ_6 =>
    if r_5 = 0 then
      (some ((-2 : Int32), σ_6))
    else
      bd (f_X11_isChance p3 σ_6) fun r_9 σ_10 =>
      if r_9 = 0 then
        (some ((-2 : Int32), σ_10))
      else
        bd (f_X11_isChance p4 σ_10) fun r_13 σ_14 =>
        if r_13 = 0 then
          (some ((-2 : Int32), σ_14))
        else
          bd (f_X11_isChance p5 σ_14) fun r_17 σ_18 =>
          if r_17 = 0 then
            (some ((-2 : Int32), σ_18))
          else
            bd (f_X11_isChance p6 σ_18) fun r_21 σ_22 =>
            if r_21 = 0 then
              (some ((-2 : Int32), σ_22))
            else
              if ((((p2 + p3) + p4) + p5) + p6) ≤ (1000 : Int32) then
                (bv (f_X10_follow p1 (0 : Int32) p2 σ_22) fun σ_27 =>
                bv (f_X10_follow p1 (1 : Int32) p3 σ_27) fun σ_30 =>
                bv (f_X10_follow p1 (2 : Int32) p4 σ_30) fun σ_33 =>
                bv (f_X10_follow p1 (3 : Int32) p5 σ_33) fun σ_36 =>
                bv (f_X10_follow p1 (4 : Int32) p6 σ_36) fun σ_39 =>
                bv (f_X10_follow p1 (5 : Int32) ((((((1000 : Int32) - p2) - p3) - p4) - p5) - p6) σ_39) fun σ_42 =>
                bv (f_X5_forget σ_42) fun σ_45 =>
                some ((1 : Int32), σ_45))
              else
                some ((-2 : Int32), σ_22)
set_option maxHeartbeats 4000000 in
set_option maxRecDepth 100000 in
theorem m_X11_wind (l : Launch) (E : EV) (p1 : Int32) (p2 : Int32) (p3 : Int32) (p4 : Int32) (p5 : Int32) (p6 : Int32) (σ : Mem) (rr : Int32) (τ : Mem) (h : f_X11_wind p1 p2 p3 p4 p5 p6 σ = some (rr, τ)) : MI TC l E yX11_wind cX11_wind 7 (some .int) 2 42 [.ref (E.2.1 (0)), .int p1, .int p2, .int p3, .int p4, .int p5, .int p6] σ rr τ := by
  refine mt_start RX11 (by decide +kernel) rfl (Nat.le_of_ble_eq_true rfl) (fun p e s m args below meth c ls C hw hl => ?_)
  replace hl : lv_has ls 7 [(0, .ref (E.2.1 (0))), (1, .int p1), (2, .int p2), (3, .int p3), (4, .int p4), (5, .int p5), (6, .int p6)] := hl
  obtain ⟨hx, hb, hml, hown, hts, hK, hSt, hlk, hr⟩ := id C
  unfold f_X11_wind at h
  refine lv_iload_n hx hb dX11_wind_0 rfl (lv_at hl 1 rfl) ?_
  obtain ⟨r_1, σ_2, h_3, h⟩ := bd_at h
  refine q_afterI hw (q_runS C hw hl.1 (As := [.int p1]) (rest := []) (m_X11_isWind l E p1 σ r_1 σ_2 h_3) yq_X11_isWind kw_616 ⟨Nat.le_of_ble_eq_true rfl, Nat.le_of_ble_eq_true rfl⟩ rfl (Nat.le_of_ble_eq_true rfl) ⟨Nat.zero_le _, Nat.zero_le _⟩ dX11_wind_1) (fun H locs hw => ?_)
  refine lv_if_ne (tgt := 9) hx hb dX11_wind_4 (by decide) (fun c_4 => ?_) (fun c_4 => ?_)
  · replace h := ie_at h c_4
    refine lv_iload_n hx hb dX11_wind_9 rfl (lv_at hl 2 rfl) ?_
    obtain ⟨r_5, σ_6, h_7, h⟩ := bd_at h
    refine q_afterI hw (q_runS C hw hl.1 (As := [.int p2]) (rest := []) (m_X11_isChance l E p2 σ_2 r_5 σ_6 h_7) yq_X11_isChance kw_668 ⟨Nat.le_of_ble_eq_true rfl, Nat.le_of_ble_eq_true rfl⟩ rfl (Nat.le_of_ble_eq_true rfl) ⟨Nat.zero_le _, Nat.zero_le _⟩ dX11_wind_10) (fun H locs hw => ?_)
    refine lv_if_eq (tgt := 47) hx hb dX11_wind_13 (by decide) (fun c_8 => ?_) (fun c_8 => ?_)
    · replace h := it_at h c_8
      refine lv_bipush (v := (-2)) hx hb dX11_wind_47 (by decide) ?_
      obtain ⟨rfl, rfl⟩ := ret_at h
      exact q_iret C hw dX11_wind_49
    · replace h := ie_at h c_8
      refine lv_iload_n hx hb dX11_wind_16 rfl (lv_at hl 3 rfl) ?_
      obtain ⟨r_9, σ_10, h_11, h⟩ := bd_at h
      refine q_afterI hw (q_runS C hw hl.1 (As := [.int p3]) (rest := []) (m_X11_isChance l E p3 σ_6 r_9 σ_10 h_11) yq_X11_isChance kw_668 ⟨Nat.le_of_ble_eq_true rfl, Nat.le_of_ble_eq_true rfl⟩ rfl (Nat.le_of_ble_eq_true rfl) ⟨Nat.zero_le _, Nat.zero_le _⟩ dX11_wind_17) (fun H locs hw => ?_)
      refine lv_if_eq (tgt := 47) hx hb dX11_wind_20 (by decide) (fun c_12 => ?_) (fun c_12 => ?_)
      · replace h := it_at h c_12
        refine lv_bipush (v := (-2)) hx hb dX11_wind_47 (by decide) ?_
        obtain ⟨rfl, rfl⟩ := ret_at h
        exact q_iret C hw dX11_wind_49
      · replace h := ie_at h c_12
        refine lv_iload hx hb dX11_wind_23 (lv_at hl 4 rfl) ?_
        obtain ⟨r_13, σ_14, h_15, h⟩ := bd_at h
        refine q_afterI hw (q_runS C hw hl.1 (As := [.int p4]) (rest := []) (m_X11_isChance l E p4 σ_10 r_13 σ_14 h_15) yq_X11_isChance kw_668 ⟨Nat.le_of_ble_eq_true rfl, Nat.le_of_ble_eq_true rfl⟩ rfl (Nat.le_of_ble_eq_true rfl) ⟨Nat.zero_le _, Nat.zero_le _⟩ dX11_wind_25) (fun H locs hw => ?_)
        refine lv_if_eq (tgt := 47) hx hb dX11_wind_28 (by decide) (fun c_16 => ?_) (fun c_16 => ?_)
        · replace h := it_at h c_16
          refine lv_bipush (v := (-2)) hx hb dX11_wind_47 (by decide) ?_
          obtain ⟨rfl, rfl⟩ := ret_at h
          exact q_iret C hw dX11_wind_49
        · replace h := ie_at h c_16
          refine lv_iload hx hb dX11_wind_31 (lv_at hl 5 rfl) ?_
          obtain ⟨r_17, σ_18, h_19, h⟩ := bd_at h
          refine q_afterI hw (q_runS C hw hl.1 (As := [.int p5]) (rest := []) (m_X11_isChance l E p5 σ_14 r_17 σ_18 h_19) yq_X11_isChance kw_668 ⟨Nat.le_of_ble_eq_true rfl, Nat.le_of_ble_eq_true rfl⟩ rfl (Nat.le_of_ble_eq_true rfl) ⟨Nat.zero_le _, Nat.zero_le _⟩ dX11_wind_33) (fun H locs hw => ?_)
          refine lv_if_eq (tgt := 47) hx hb dX11_wind_36 (by decide) (fun c_20 => ?_) (fun c_20 => ?_)
          · replace h := it_at h c_20
            refine lv_bipush (v := (-2)) hx hb dX11_wind_47 (by decide) ?_
            obtain ⟨rfl, rfl⟩ := ret_at h
            exact q_iret C hw dX11_wind_49
          · replace h := ie_at h c_20
            refine lv_iload hx hb dX11_wind_39 (lv_at hl 6 rfl) ?_
            obtain ⟨r_21, σ_22, h_23, h⟩ := bd_at h
            refine q_afterI hw (q_runS C hw hl.1 (As := [.int p6]) (rest := []) (m_X11_isChance l E p6 σ_18 r_21 σ_22 h_23) yq_X11_isChance kw_668 ⟨Nat.le_of_ble_eq_true rfl, Nat.le_of_ble_eq_true rfl⟩ rfl (Nat.le_of_ble_eq_true rfl) ⟨Nat.zero_le _, Nat.zero_le _⟩ dX11_wind_41) (fun H locs hw => ?_)
            refine lv_if_ne (tgt := 50) hx hb dX11_wind_44 (by decide) (fun c_24 => ?_) (fun c_24 => ?_)
            · replace h := ie_at h c_24
              refine lv_iload_n hx hb dX11_wind_50 rfl (lv_at hl 2 rfl) ?_
              refine lv_iload_n hx hb dX11_wind_51 rfl (lv_at hl 3 rfl) ?_
              refine lv_iadd hx hb dX11_wind_52 ?_
              refine lv_iload hx hb dX11_wind_53 (lv_at hl 4 rfl) ?_
              refine lv_iadd hx hb dX11_wind_55 ?_
              refine lv_iload hx hb dX11_wind_56 (lv_at hl 5 rfl) ?_
              refine lv_iadd hx hb dX11_wind_58 ?_
              refine lv_iload hx hb dX11_wind_59 (lv_at hl 6 rfl) ?_
              refine lv_iadd hx hb dX11_wind_61 ?_
              refine lv_sipush (v := 1000) hx hb dX11_wind_62 (by decide) ?_
              refine lv_icmp_le (tgt := 71) hx hb dX11_wind_65 (by decide) (fun c_25 => ?_) (fun c_25 => ?_)
              · replace h := it_at h c_25
                refine lv_aload_n hx hb dX11_wind_71 rfl (lv_at hl 0 rfl) ?_
                refine gf_11_1 C hw tC_0 kw_402 dX11_wind_72 ?_
                refine gf_8_2 C hw tC_2 kw_246 (c1 := 5) rfl dX11_wind_75 ?_
                refine lv_iload_n hx hb dX11_wind_78 rfl (lv_at hl 1 rfl) ?_
                refine lv_iconst (v := 0) hx hb dX11_wind_79 (by decide) ?_
                refine lv_iload_n hx hb dX11_wind_80 rfl (lv_at hl 2 rfl) ?_
                obtain ⟨σ_27, h_28, h⟩ := bv_at h
                refine q_afterV hw (q_runV C hw hl.1 (As := [.int p1, .int (0 : Int32), .int p2]) (rest := []) (m_X10_follow l E p1 (0 : Int32) p2 σ_22 σ_27 h_28) yq_X10_follow tC_5 rfl rfl kw_671 ⟨Nat.le_of_ble_eq_true rfl, Nat.le_of_ble_eq_true rfl⟩ rfl (Nat.le_of_ble_eq_true rfl) ⟨Nat.zero_le _, Nat.zero_le _⟩ dX11_wind_81) (fun H locs hw => ?_)
                refine lv_aload_n hx hb dX11_wind_84 rfl (lv_at hl 0 rfl) ?_
                refine gf_11_1 C hw tC_0 kw_402 dX11_wind_85 ?_
                refine gf_8_2 C hw tC_2 kw_246 (c1 := 5) rfl dX11_wind_88 ?_
                refine lv_iload_n hx hb dX11_wind_91 rfl (lv_at hl 1 rfl) ?_
                refine lv_iconst (v := 1) hx hb dX11_wind_92 (by decide) ?_
                refine lv_iload_n hx hb dX11_wind_93 rfl (lv_at hl 3 rfl) ?_
                obtain ⟨σ_30, h_31, h⟩ := bv_at h
                refine q_afterV hw (q_runV C hw hl.1 (As := [.int p1, .int (1 : Int32), .int p3]) (rest := []) (m_X10_follow l E p1 (1 : Int32) p3 σ_27 σ_30 h_31) yq_X10_follow tC_5 rfl rfl kw_671 ⟨Nat.le_of_ble_eq_true rfl, Nat.le_of_ble_eq_true rfl⟩ rfl (Nat.le_of_ble_eq_true rfl) ⟨Nat.zero_le _, Nat.zero_le _⟩ dX11_wind_94) (fun H locs hw => ?_)
                refine lv_aload_n hx hb dX11_wind_97 rfl (lv_at hl 0 rfl) ?_
                refine gf_11_1 C hw tC_0 kw_402 dX11_wind_98 ?_
                refine gf_8_2 C hw tC_2 kw_246 (c1 := 5) rfl dX11_wind_101 ?_
                refine lv_iload_n hx hb dX11_wind_104 rfl (lv_at hl 1 rfl) ?_
                refine lv_iconst (v := 2) hx hb dX11_wind_105 (by decide) ?_
                refine lv_iload hx hb dX11_wind_106 (lv_at hl 4 rfl) ?_
                obtain ⟨σ_33, h_34, h⟩ := bv_at h
                refine q_afterV hw (q_runV C hw hl.1 (As := [.int p1, .int (2 : Int32), .int p4]) (rest := []) (m_X10_follow l E p1 (2 : Int32) p4 σ_30 σ_33 h_34) yq_X10_follow tC_5 rfl rfl kw_671 ⟨Nat.le_of_ble_eq_true rfl, Nat.le_of_ble_eq_true rfl⟩ rfl (Nat.le_of_ble_eq_true rfl) ⟨Nat.zero_le _, Nat.zero_le _⟩ dX11_wind_108) (fun H locs hw => ?_)
                refine lv_aload_n hx hb dX11_wind_111 rfl (lv_at hl 0 rfl) ?_
                refine gf_11_1 C hw tC_0 kw_402 dX11_wind_112 ?_
                refine gf_8_2 C hw tC_2 kw_246 (c1 := 5) rfl dX11_wind_115 ?_
                refine lv_iload_n hx hb dX11_wind_118 rfl (lv_at hl 1 rfl) ?_
                refine lv_iconst (v := 3) hx hb dX11_wind_119 (by decide) ?_
                refine lv_iload hx hb dX11_wind_120 (lv_at hl 5 rfl) ?_
                obtain ⟨σ_36, h_37, h⟩ := bv_at h
                refine q_afterV hw (q_runV C hw hl.1 (As := [.int p1, .int (3 : Int32), .int p5]) (rest := []) (m_X10_follow l E p1 (3 : Int32) p5 σ_33 σ_36 h_37) yq_X10_follow tC_5 rfl rfl kw_671 ⟨Nat.le_of_ble_eq_true rfl, Nat.le_of_ble_eq_true rfl⟩ rfl (Nat.le_of_ble_eq_true rfl) ⟨Nat.zero_le _, Nat.zero_le _⟩ dX11_wind_122) (fun H locs hw => ?_)
                refine lv_aload_n hx hb dX11_wind_125 rfl (lv_at hl 0 rfl) ?_
                refine gf_11_1 C hw tC_0 kw_402 dX11_wind_126 ?_
                refine gf_8_2 C hw tC_2 kw_246 (c1 := 5) rfl dX11_wind_129 ?_
                refine lv_iload_n hx hb dX11_wind_132 rfl (lv_at hl 1 rfl) ?_
                refine lv_iconst (v := 4) hx hb dX11_wind_133 (by decide) ?_
                refine lv_iload hx hb dX11_wind_134 (lv_at hl 6 rfl) ?_
                obtain ⟨σ_39, h_40, h⟩ := bv_at h
                refine q_afterV hw (q_runV C hw hl.1 (As := [.int p1, .int (4 : Int32), .int p6]) (rest := []) (m_X10_follow l E p1 (4 : Int32) p6 σ_36 σ_39 h_40) yq_X10_follow tC_5 rfl rfl kw_671 ⟨Nat.le_of_ble_eq_true rfl, Nat.le_of_ble_eq_true rfl⟩ rfl (Nat.le_of_ble_eq_true rfl) ⟨Nat.zero_le _, Nat.zero_le _⟩ dX11_wind_136) (fun H locs hw => ?_)
                refine lv_aload_n hx hb dX11_wind_139 rfl (lv_at hl 0 rfl) ?_
                refine gf_11_1 C hw tC_0 kw_402 dX11_wind_140 ?_
                refine gf_8_2 C hw tC_2 kw_246 (c1 := 5) rfl dX11_wind_143 ?_
                refine lv_iload_n hx hb dX11_wind_146 rfl (lv_at hl 1 rfl) ?_
                refine lv_iconst (v := 5) hx hb dX11_wind_147 (by decide) ?_
                refine lv_sipush (v := 1000) hx hb dX11_wind_148 (by decide) ?_
                refine lv_iload_n hx hb dX11_wind_151 rfl (lv_at hl 2 rfl) ?_
                refine lv_isub hx hb dX11_wind_152 ?_
                refine lv_iload_n hx hb dX11_wind_153 rfl (lv_at hl 3 rfl) ?_
                refine lv_isub hx hb dX11_wind_154 ?_
                refine lv_iload hx hb dX11_wind_155 (lv_at hl 4 rfl) ?_
                refine lv_isub hx hb dX11_wind_157 ?_
                refine lv_iload hx hb dX11_wind_158 (lv_at hl 5 rfl) ?_
                refine lv_isub hx hb dX11_wind_160 ?_
                refine lv_iload hx hb dX11_wind_161 (lv_at hl 6 rfl) ?_
                refine lv_isub hx hb dX11_wind_163 ?_
                obtain ⟨σ_42, h_43, h⟩ := bv_at h
                refine q_afterV hw (q_runV C hw hl.1 (As := [.int p1, .int (5 : Int32), .int ((((((1000 : Int32) - p2) - p3) - p4) - p5) - p6)]) (rest := []) (m_X10_follow l E p1 (5 : Int32) ((((((1000 : Int32) - p2) - p3) - p4) - p5) - p6) σ_39 σ_42 h_43) yq_X10_follow tC_5 rfl rfl kw_671 ⟨Nat.le_of_ble_eq_true rfl, Nat.le_of_ble_eq_true rfl⟩ rfl (Nat.le_of_ble_eq_true rfl) ⟨Nat.zero_le _, Nat.zero_le _⟩ dX11_wind_164) (fun H locs hw => ?_)
                refine lv_aload_n hx hb dX11_wind_167 rfl (lv_at hl 0 rfl) ?_
                refine gf_11_4 C hw tC_0 kw_405 dX11_wind_168 ?_
                obtain ⟨σ_45, h_46, h⟩ := bv_at h
                refine q_afterV hw (q_runV C hw hl.1 (As := []) (rest := []) (m_X5_forget l E  σ_42 σ_45 h_46) yq_X5_forget tC_41 rfl rfl kw_675 ⟨Nat.le_of_ble_eq_true rfl, Nat.le_of_ble_eq_true rfl⟩ rfl (Nat.le_of_ble_eq_true rfl) ⟨Nat.zero_le _, Nat.zero_le _⟩ dX11_wind_171) (fun H locs hw => ?_)
                refine lv_iconst (v := 1) hx hb dX11_wind_174 (by decide) ?_
                obtain ⟨rfl, rfl⟩ := ret_at h
                exact q_iret C hw dX11_wind_175
              · replace h := ie_at h c_25
                refine lv_bipush (v := (-2)) hx hb dX11_wind_68 (by decide) ?_
                obtain ⟨rfl, rfl⟩ := ret_at h
                exact q_iret C hw dX11_wind_70
            · replace h := it_at h c_24
              refine lv_bipush (v := (-2)) hx hb dX11_wind_47 (by decide) ?_
              obtain ⟨rfl, rfl⟩ := ret_at h
              exact q_iret C hw dX11_wind_49
  · replace h := it_at h c_4
    refine lv_iconst (v := (-1)) hx hb dX11_wind_7 (by decide) ?_
    obtain ⟨rfl, rfl⟩ := ret_at h
    exact q_iret C hw dX11_wind_8
