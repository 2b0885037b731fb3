theorem kw_objcode : Cond.code Lib.objectInit ⟨#[0xb1]⟩ 1 none ∈ lw_gd := kw_gd (List.mem_of_getElem? (i := 104) (by decide +kernel)) (by decide +kernel)
theorem bl_0 : ∀ j, j < 5 → defaultValue (tyX0 j) = vp_V [.null, .int 0, .int 0, .int 0, .int 0] j := by
  intro j hj
  match j, hj with
  | 0, _ => rfl
  | 1, _ => rfl
  | 2, _ => rfl
  | 3, _ => rfl
  | 4, _ => rfl
  | j + 5, h => exact absurd h (by omega)
theorem bl_1 : ∀ j, j < 3 → defaultValue (tyX1 j) = vp_V [.null, .null, .int 0] j := by
  intro j hj
  match j, hj with
  | 0, _ => rfl
  | 1, _ => rfl
  | 2, _ => rfl
  | j + 3, h => exact absurd h (by omega)
theorem bl_2 : ∀ j, j < 6 → defaultValue (tyX2 j) = vp_V [.int 0, .int 0, .int 0, .int 0, .int 0, .int 0] j := by
  intro j hj
  match j, hj with
  | 0, _ => rfl
  | 1, _ => rfl
  | 2, _ => rfl
  | 3, _ => rfl
  | 4, _ => rfl
  | 5, _ => rfl
  | j + 6, h => exact absurd h (by omega)
theorem bl_3 : ∀ j, j < 11 → defaultValue (tyX3 j) = vp_V [.null, .null, .null, .null, .null, .null, .int 0, .int 0, .int 0, .int 0, .int 0] j := by
  intro j hj
  match j, hj with
  | 0, _ => rfl
  | 1, _ => rfl
  | 2, _ => rfl
  | 3, _ => rfl
  | 4, _ => rfl
  | 5, _ => rfl
  | 6, _ => rfl
  | 7, _ => rfl
  | 8, _ => rfl
  | 9, _ => rfl
  | 10, _ => rfl
  | j + 11, h => exact absurd h (by omega)
theorem bl_4 : ∀ j, j < 5 → defaultValue (tyX4 j) = vp_V [.null, .null, .null, .null, .int 0] j := by
  intro j hj
  match j, hj with
  | 0, _ => rfl
  | 1, _ => rfl
  | 2, _ => rfl
  | 3, _ => rfl
  | 4, _ => rfl
  | j + 5, h => exact absurd h (by omega)
theorem bl_5 : ∀ j, j < 15 → defaultValue (tyX5 j) = vp_V [.null, .null, .null, .null, .int 0, .int 0, .null, .null, .null, .int 0, .int 0, .int 0, .int 0, .int 0, .int 0] j := by
  intro j hj
  match j, hj with
  | 0, _ => rfl
  | 1, _ => rfl
  | 2, _ => rfl
  | 3, _ => rfl
  | 4, _ => rfl
  | 5, _ => rfl
  | 6, _ => rfl
  | 7, _ => rfl
  | 8, _ => rfl
  | 9, _ => rfl
  | 10, _ => rfl
  | 11, _ => rfl
  | 12, _ => rfl
  | 13, _ => rfl
  | 14, _ => rfl
  | j + 15, h => exact absurd h (by omega)
theorem bl_6 : ∀ j, j < 3 → defaultValue (tyX6 j) = vp_V [.null, .null, .int 0] j := by
  intro j hj
  match j, hj with
  | 0, _ => rfl
  | 1, _ => rfl
  | 2, _ => rfl
  | j + 3, h => exact absurd h (by omega)
theorem bl_7 : ∀ j, j < 5 → defaultValue (tyX7 j) = vp_V [.null, .null, .null, .null, .int 0] j := by
  intro j hj
  match j, hj with
  | 0, _ => rfl
  | 1, _ => rfl
  | 2, _ => rfl
  | 3, _ => rfl
  | 4, _ => rfl
  | j + 5, h => exact absurd h (by omega)
theorem bl_8 : ∀ j, j < 7 → defaultValue (tyX8 j) = vp_V [.int 0, .null, .null, .null, .null, .null, .null] j := by
  intro j hj
  match j, hj with
  | 0, _ => rfl
  | 1, _ => rfl
  | 2, _ => rfl
  | 3, _ => rfl
  | 4, _ => rfl
  | 5, _ => rfl
  | 6, _ => rfl
  | j + 7, h => exact absurd h (by omega)
theorem bl_9 : ∀ j, j < 2 → defaultValue (tyX9 j) = vp_V [.null, .int 0] j := by
  intro j hj
  match j, hj with
  | 0, _ => rfl
  | 1, _ => rfl
  | j + 2, h => exact absurd h (by omega)
theorem bl_10 : ∀ j, j < 1 → defaultValue (tyX10 j) = vp_V [.null] j := by
  intro j hj
  match j, hj with
  | 0, _ => rfl
  | j + 1, h => exact absurd h (by omega)
theorem bl_11 : ∀ j, j < 7 → defaultValue (tyX11 j) = vp_V [.null, .null, .null, .null, .null, .null, .int 0] j := by
  intro j hj
  match j, hj with
  | 0, _ => rfl
  | 1, _ => rfl
  | 2, _ => rfl
  | 3, _ => rfl
  | 4, _ => rfl
  | 5, _ => rfl
  | 6, _ => rfl
  | j + 7, h => exact absurd h (by omega)
theorem bl_12 : ∀ j, j < 39 → defaultValue (tyX12 j) = vp_V [.int 0, .null, .null, .int 0, .int 0, .int 0, .int 0, .int 0, .int 0, .null, .null, .int 0, .int 0, .int 0, .int 0, .int 0, .null, .null, .null, .null, .null, .null, .null, .null, .null, .int 0, .int 0, .int 0, .int 0, .int 0, .int 0, .int 0, .int 0, .null, .null, .int 0, .int 0, .int 0, .int 0] j := by
  intro j hj
  match j, hj with
  | 0, _ => rfl
  | 1, _ => rfl
  | 2, _ => rfl
  | 3, _ => rfl
  | 4, _ => rfl
  | 5, _ => rfl
  | 6, _ => rfl
  | 7, _ => rfl
  | 8, _ => rfl
  | 9, _ => rfl
  | 10, _ => rfl
  | 11, _ => rfl
  | 12, _ => rfl
  | 13, _ => rfl
  | 14, _ => rfl
  | 15, _ => rfl
  | 16, _ => rfl
  | 17, _ => rfl
  | 18, _ => rfl
  | 19, _ => rfl
  | 20, _ => rfl
  | 21, _ => rfl
  | 22, _ => rfl
  | 23, _ => rfl
  | 24, _ => rfl
  | 25, _ => rfl
  | 26, _ => rfl
  | 27, _ => rfl
  | 28, _ => rfl
  | 29, _ => rfl
  | 30, _ => rfl
  | 31, _ => rfl
  | 32, _ => rfl
  | 33, _ => rfl
  | 34, _ => rfl
  | 35, _ => rfl
  | 36, _ => rfl
  | 37, _ => rfl
  | 38, _ => rfl
  | j + 39, h => exact absurd h (by omega)
theorem lst_at {R : List va_E} {e0 e1 x : va_E} {xs : List va_E} {n : Nat} (h : R.length + 2 = n) : (e0 :: e1 :: (R ++ x :: xs))[n]? = some x := by
  subst h
  simp
def es_X0 (E : EV) (b : Nat) : List va_E := [.inr (0, [.ref (b + 1), .int 0, .int 0, .int 0, .int 0]), .inl (E.2.2.2.1 0, (20, .inl (fun _ => 0)))]
theorem len_X0 (E : EV) (b : Nat) : (es_X0 E b).length = 2 := rfl
theorem yc_X0 : yC yX0_init cX0_init 1 := ⟨⟨by decide +kernel, by decide +kernel, by decide +kernel⟩, kw_342, kw_86, kw_341, rfl⟩
set_option maxHeartbeats 4000000 in
set_option maxRecDepth 100000 in
theorem mc_X0 (l : Launch) (E : EV) : MC l E yX0_init cX0_init 1 1 20 1 20 (.inr (0, [.null, .int 0, .int 0, .int 0, .int 0])) (es_X0 E) := by
  intro b
  refine mc_start RX0 (by decide +kernel) rfl rfl (Nat.le_of_ble_eq_true rfl) (fun p e s m args below meth c ls C hz hl => ?_)
  have hx := C.1
  have hb := C.2.1
  refine lv_aload_n hx hb dX0_init_0 rfl (lv_at hl 0 rfl) ?_
  refine z_obj C hl.1 kw_343 kw_103 kw_objcode (Nat.le_of_ble_eq_true rfl) (Nat.le_of_ble_eq_true rfl) (Nat.le_of_ble_eq_true rfl) dX0_init_1 ?_
  refine lv_aload_n hx hb dX0_init_4 rfl (lv_at hl 0 rfl) ?_
  refine lv_bipush (v := 20) hx hb dX0_init_5 (by decide) ?_
  refine z_newa C hz (atype := .int) (ty := .int) rfl kw_139 (t0 := 0) rfl (fun _ _ h => h) (N := 20) (a0 := (20, .inl (fun _ => 0))) rfl (by decide) (by decide +kernel) (Nat.le_of_ble_eq_true rfl) (Nat.le_of_ble_eq_true rfl) (Nat.le_of_ble_eq_true rfl) dX0_init_7 (q := (b + 1)) rfl (fun H hz => ?_)
  replace hz : Zc E b [.inr (0, [.null, .int 0, .int 0, .int 0, .int 0]), .inl (E.2.2.2.1 0, (20, .inl (fun _ => 0)))] s H _ := hz
  refine z_put C hz (c0 := 0) (Tf := TX0) (N := 5) (k := 0) (ty := tyX0 0) rfl rfl inX0 tyX0 tyX0_ok nmX0 (by decide) kw_344 rfl rfl (by decide +kernel) rfl rfl (Nat.le_of_ble_eq_true rfl) dX0_init_9 (q := b) rfl (fun H locs hz => ?_)
  replace hz : Zc E b [.inr (0, [.ref (b + 1), .int 0, .int 0, .int 0, .int 0]), .inl (E.2.2.2.1 0, (20, .inl (fun _ => 0)))] s H _ := hz
  exact z_ret C hz rfl dX0_init_12
def es_X1 (E : EV) (b : Nat) : List va_E := [.inr (1, [.ref (b + 1), .ref (b + 2), .int 0]), .inl (E.2.2.2.1 0, (10, .inl (fun _ => 0))), .inl (E.2.2.2.1 0, (10, .inl (fun _ => 0)))]
theorem len_X1 (E : EV) (b : Nat) : (es_X1 E b).length = 3 := rfl
theorem yc_X1 : yC yX1_init cX1_init 1 := ⟨⟨by decide +kernel, by decide +kernel, by decide +kernel⟩, kw_205, kw_82, kw_204, rfl⟩
set_option maxHeartbeats 4000000 in
set_option maxRecDepth 100000 in
theorem mc_X1 (l : Launch) (E : EV) : MC l E yX1_init cX1_init 1 1 20 2 20 (.inr (1, [.null, .null, .int 0])) (es_X1 E) := by
  intro b
  refine mc_start RX1 (by decide +kernel) rfl rfl (Nat.le_of_ble_eq_true rfl) (fun p e s m args below meth c ls C hz hl => ?_)
  have hx := C.1
  have hb := C.2.1
  refine lv_aload_n hx hb dX1_init_0 rfl (lv_at hl 0 rfl) ?_
  refine z_obj C hl.1 kw_206 kw_103 kw_objcode (Nat.le_of_ble_eq_true rfl) (Nat.le_of_ble_eq_true rfl) (Nat.le_of_ble_eq_true rfl) dX1_init_1 ?_
  refine lv_aload_n hx hb dX1_init_4 rfl (lv_at hl 0 rfl) ?_
  refine lv_bipush (v := 10) hx hb dX1_init_5 (by decide) ?_
  refine z_newa C hz (atype := .int) (ty := .int) rfl kw_139 (t0 := 0) rfl (fun _ _ h => h) (N := 10) (a0 := (10, .inl (fun _ => 0))) rfl (by decide) (by decide +kernel) (Nat.le_of_ble_eq_true rfl) (Nat.le_of_ble_eq_true rfl) (Nat.le_of_ble_eq_true rfl) dX1_init_7 (q := (b + 1)) rfl (fun H hz => ?_)
  replace hz : Zc E b [.inr (1, [.null, .null, .int 0]), .inl (E.2.2.2.1 0, (10, .inl (fun _ => 0)))] s H _ := hz
  refine z_put C hz (c0 := 0) (Tf := TX1) (N := 3) (k := 0) (ty := tyX1 0) rfl rfl inX1 tyX1 tyX1_ok nmX1 (by decide) kw_207 rfl rfl (by decide +kernel) rfl rfl (Nat.le_of_ble_eq_true rfl) dX1_init_9 (q := b) rfl (fun H locs hz => ?_)
  replace hz : Zc E b [.inr (1, [.ref (b + 1), .null, .int 0]), .inl (E.2.2.2.1 0, (10, .inl (fun _ => 0)))] s H _ := hz
  refine lv_aload_n hx hb dX1_init_12 rfl (lv_at hl 0 rfl) ?_
  refine lv_bipush (v := 10) hx hb dX1_init_13 (by decide) ?_
  refine z_newa C hz (atype := .int) (ty := .int) rfl kw_139 (t0 := 0) rfl (fun _ _ h => h) (N := 10) (a0 := (10, .inl (fun _ => 0))) rfl (by decide) (by decide +kernel) (Nat.le_of_ble_eq_true rfl) (Nat.le_of_ble_eq_true rfl) (Nat.le_of_ble_eq_true rfl) dX1_init_15 (q := (b + 2)) rfl (fun H hz => ?_)
  replace hz : Zc E b [.inr (1, [.ref (b + 1), .null, .int 0]), .inl (E.2.2.2.1 0, (10, .inl (fun _ => 0))), .inl (E.2.2.2.1 0, (10, .inl (fun _ => 0)))] s H _ := hz
  refine z_put C hz (c0 := 0) (Tf := TX1) (N := 3) (k := 1) (ty := tyX1 1) rfl rfl inX1 tyX1 tyX1_ok nmX1 (by decide) kw_208 rfl rfl (by decide +kernel) rfl rfl (Nat.le_of_ble_eq_true rfl) dX1_init_17 (q := b) rfl (fun H locs hz => ?_)
  replace hz : Zc E b [.inr (1, [.ref (b + 1), .ref (b + 2), .int 0]), .inl (E.2.2.2.1 0, (10, .inl (fun _ => 0))), .inl (E.2.2.2.1 0, (10, .inl (fun _ => 0)))] s H _ := hz
  exact z_ret C hz rfl dX1_init_20
def es_X2 (E : EV) (b : Nat) : List va_E := [.inr (2, [.int (-1 : Int32), .int 0, .int 0, .int 0, .int 0, .int 0])]
theorem len_X2 (E : EV) (b : Nat) : (es_X2 E b).length = 1 := rfl
theorem yc_X2 : yC yX2_init cX2_init 1 := ⟨⟨by decide +kernel, by decide +kernel, by decide +kernel⟩, kw_144, kw_80, kw_143, rfl⟩
set_option maxHeartbeats 4000000 in
set_option maxRecDepth 100000 in
theorem mc_X2 (l : Launch) (E : EV) : MC l E yX2_init cX2_init 1 1 20 0 0 (.inr (2, [.int 0, .int 0, .int 0, .int 0, .int 0, .int 0])) (es_X2 E) := by
  intro b
  refine mc_start RX2 (by decide +kernel) rfl rfl (Nat.le_of_ble_eq_true rfl) (fun p e s m args below meth c ls C hz hl => ?_)
  have hx := C.1
  have hb := C.2.1
  refine lv_aload_n hx hb dX2_init_0 rfl (lv_at hl 0 rfl) ?_
  refine z_obj C hl.1 kw_145 kw_103 kw_objcode (Nat.le_of_ble_eq_true rfl) (Nat.le_of_ble_eq_true rfl) (Nat.le_of_ble_eq_true rfl) dX2_init_1 ?_
  refine lv_aload_n hx hb dX2_init_4 rfl (lv_at hl 0 rfl) ?_
  refine lv_iconst (v := (-1)) hx hb dX2_init_5 (by decide) ?_
  refine z_put C hz (c0 := 0) (Tf := TX2) (N := 6) (k := 0) (ty := tyX2 0) rfl rfl inX2 tyX2 tyX2_ok nmX2 (by decide) kw_146 rfl rfl (by decide +kernel) rfl rfl (Nat.le_of_ble_eq_true rfl) dX2_init_6 (q := b) rfl (fun H locs hz => ?_)
  replace hz : Zc E b [.inr (2, [.int (-1 : Int32), .int 0, .int 0, .int 0, .int 0, .int 0])] s H _ := hz
  exact z_ret C hz rfl dX2_init_9
def es_X3 (E : EV) (b : Nat) : List va_E := [.inr (3, [.ref (b + 1), .ref (b + 2), .ref (b + 3), .ref (b + 4), .ref (b + 5), .ref (b + 6), .int 0, .int 0, .int 0, .int 0, .int 0]), .inl (E.2.2.2.1 0, (10, .inl (fun _ => 0))), .inl (E.2.2.2.1 0, (10, .inl (fun _ => 0))), .inl (E.2.2.2.1 0, (10, .inl (fun _ => 0))), .inl (E.2.2.2.1 0, (120, .inl (fun _ => 0))), .inl (E.2.2.2.1 0, (6, .inl (fun _ => 0))), .inl (E.2.2.2.1 0, (4800, .inl (fun _ => 0)))]
theorem len_X3 (E : EV) (b : Nat) : (es_X3 E b).length = 7 := rfl
theorem yc_X3 : yC yX3_init cX3_init 1 := ⟨⟨by decide +kernel, by decide +kernel, by decide +kernel⟩, kw_365, kw_87, kw_364, rfl⟩
set_option maxHeartbeats 4000000 in
set_option maxRecDepth 100000 in
theorem mc_X3 (l : Launch) (E : EV) : MC l E yX3_init cX3_init 1 1 20 6 4956 (.inr (3, [.null, .null, .null, .null, .null, .null, .int 0, .int 0, .int 0, .int 0, .int 0])) (es_X3 E) := by
  intro b
  refine mc_start RX3 (by decide +kernel) rfl rfl (Nat.le_of_ble_eq_true rfl) (fun p e s m args below meth c ls C hz hl => ?_)
  have hx := C.1
  have hb := C.2.1
  refine lv_aload_n hx hb dX3_init_0 rfl (lv_at hl 0 rfl) ?_
  refine z_obj C hl.1 kw_366 kw_103 kw_objcode (Nat.le_of_ble_eq_true rfl) (Nat.le_of_ble_eq_true rfl) (Nat.le_of_ble_eq_true rfl) dX3_init_1 ?_
  refine lv_aload_n hx hb dX3_init_4 rfl (lv_at hl 0 rfl) ?_
  refine lv_bipush (v := 10) hx hb dX3_init_5 (by decide) ?_
  refine z_newa C hz (atype := .int) (ty := .int) rfl kw_139 (t0 := 0) rfl (fun _ _ h => h) (N := 10) (a0 := (10, .inl (fun _ => 0))) rfl (by decide) (by decide +kernel) (Nat.le_of_ble_eq_true rfl) (Nat.le_of_ble_eq_true rfl) (Nat.le_of_ble_eq_true rfl) dX3_init_7 (q := (b + 1)) rfl (fun H hz => ?_)
  replace hz : Zc E b [.inr (3, [.null, .null, .null, .null, .null, .null, .int 0, .int 0, .int 0, .int 0, .int 0]), .inl (E.2.2.2.1 0, (10, .inl (fun _ => 0)))] s H _ := hz
  refine z_put C hz (c0 := 0) (Tf := TX3) (N := 11) (k := 0) (ty := tyX3 0) rfl rfl inX3 tyX3 tyX3_ok nmX3 (by decide) kw_367 rfl rfl (by decide +kernel) rfl rfl (Nat.le_of_ble_eq_true rfl) dX3_init_9 (q := b) rfl (fun H locs hz => ?_)
  replace hz : Zc E b [.inr (3, [.ref (b + 1), .null, .null, .null, .null, .null, .int 0, .int 0, .int 0, .int 0, .int 0]), .inl (E.2.2.2.1 0, (10, .inl (fun _ => 0)))] s H _ := hz
  refine lv_aload_n hx hb dX3_init_12 rfl (lv_at hl 0 rfl) ?_
  refine lv_bipush (v := 10) hx hb dX3_init_13 (by decide) ?_
  refine z_newa C hz (atype := .int) (ty := .int) rfl kw_139 (t0 := 0) rfl (fun _ _ h => h) (N := 10) (a0 := (10, .inl (fun _ => 0))) rfl (by decide) (by decide +kernel) (Nat.le_of_ble_eq_true rfl) (Nat.le_of_ble_eq_true rfl) (Nat.le_of_ble_eq_true rfl) dX3_init_15 (q := (b + 2)) rfl (fun H hz => ?_)
  replace hz : Zc E b [.inr (3, [.ref (b + 1), .null, .null, .null, .null, .null, .int 0, .int 0, .int 0, .int 0, .int 0]), .inl (E.2.2.2.1 0, (10, .inl (fun _ => 0))), .inl (E.2.2.2.1 0, (10, .inl (fun _ => 0)))] s H _ := hz
  refine z_put C hz (c0 := 0) (Tf := TX3) (N := 11) (k := 1) (ty := tyX3 1) rfl rfl inX3 tyX3 tyX3_ok nmX3 (by decide) kw_368 rfl rfl (by decide +kernel) rfl rfl (Nat.le_of_ble_eq_true rfl) dX3_init_17 (q := b) rfl (fun H locs hz => ?_)
  replace hz : Zc E b [.inr (3, [.ref (b + 1), .ref (b + 2), .null, .null, .null, .null, .int 0, .int 0, .int 0, .int 0, .int 0]), .inl (E.2.2.2.1 0, (10, .inl (fun _ => 0))), .inl (E.2.2.2.1 0, (10, .inl (fun _ => 0)))] s H _ := hz
  refine lv_aload_n hx hb dX3_init_20 rfl (lv_at hl 0 rfl) ?_
  refine lv_bipush (v := 10) hx hb dX3_init_21 (by decide) ?_
  refine z_newa C hz (atype := .int) (ty := .int) rfl kw_139 (t0 := 0) rfl (fun _ _ h => h) (N := 10) (a0 := (10, .inl (fun _ => 0))) rfl (by decide) (by decide +kernel) (Nat.le_of_ble_eq_true rfl) (Nat.le_of_ble_eq_true rfl) (Nat.le_of_ble_eq_true rfl) dX3_init_23 (q := (b + 3)) rfl (fun H hz => ?_)
  replace hz : Zc E b [.inr (3, [.ref (b + 1), .ref (b + 2), .null, .null, .null, .null, .int 0, .int 0, .int 0, .int 0, .int 0]), .inl (E.2.2.2.1 0, (10, .inl (fun _ => 0))), .inl (E.2.2.2.1 0, (10, .inl (fun _ => 0))), .inl (E.2.2.2.1 0, (10, .inl (fun _ => 0)))] s H _ := hz
  refine z_put C hz (c0 := 0) (Tf := TX3) (N := 11) (k := 2) (ty := tyX3 2) rfl rfl inX3 tyX3 tyX3_ok nmX3 (by decide) kw_369 rfl rfl (by decide +kernel) rfl rfl (Nat.le_of_ble_eq_true rfl) dX3_init_25 (q := b) rfl (fun H locs hz => ?_)
  replace hz : Zc E b [.inr (3, [.ref (b + 1), .ref (b + 2), .ref (b + 3), .null, .null, .null, .int 0, .int 0, .int 0, .int 0, .int 0]), .inl (E.2.2.2.1 0, (10, .inl (fun _ => 0))), .inl (E.2.2.2.1 0, (10, .inl (fun _ => 0))), .inl (E.2.2.2.1 0, (10, .inl (fun _ => 0)))] s H _ := hz
  refine lv_aload_n hx hb dX3_init_28 rfl (lv_at hl 0 rfl) ?_
  refine lv_bipush (v := 120) hx hb dX3_init_29 (by decide) ?_
  refine z_newa C hz (atype := .int) (ty := .int) rfl kw_139 (t0 := 0) rfl (fun _ _ h => h) (N := 120) (a0 := (120, .inl (fun _ => 0))) rfl (by decide) (by decide +kernel) (Nat.le_of_ble_eq_true rfl) (Nat.le_of_ble_eq_true rfl) (Nat.le_of_ble_eq_true rfl) dX3_init_31 (q := (b + 4)) rfl (fun H hz => ?_)
  replace hz : Zc E b [.inr (3, [.ref (b + 1), .ref (b + 2), .ref (b + 3), .null, .null, .null, .int 0, .int 0, .int 0, .int 0, .int 0]), .inl (E.2.2.2.1 0, (10, .inl (fun _ => 0))), .inl (E.2.2.2.1 0, (10, .inl (fun _ => 0))), .inl (E.2.2.2.1 0, (10, .inl (fun _ => 0))), .inl (E.2.2.2.1 0, (120, .inl (fun _ => 0)))] s H _ := hz
  refine z_put C hz (c0 := 0) (Tf := TX3) (N := 11) (k := 3) (ty := tyX3 3) rfl rfl inX3 tyX3 tyX3_ok nmX3 (by decide) kw_370 rfl rfl (by decide +kernel) rfl rfl (Nat.le_of_ble_eq_true rfl) dX3_init_33 (q := b) rfl (fun H locs hz => ?_)
  replace hz : Zc E b [.inr (3, [.ref (b + 1), .ref (b + 2), .ref (b + 3), .ref (b + 4), .null, .null, .int 0, .int 0, .int 0, .int 0, .int 0]), .inl (E.2.2.2.1 0, (10, .inl (fun _ => 0))), .inl (E.2.2.2.1 0, (10, .inl (fun _ => 0))), .inl (E.2.2.2.1 0, (10, .inl (fun _ => 0))), .inl (E.2.2.2.1 0, (120, .inl (fun _ => 0)))] s H _ := hz
  refine lv_aload_n hx hb dX3_init_36 rfl (lv_at hl 0 rfl) ?_
  refine lv_bipush (v := 6) hx hb dX3_init_37 (by decide) ?_
  refine z_newa C hz (atype := .int) (ty := .int) rfl kw_139 (t0 := 0) rfl (fun _ _ h => h) (N := 6) (a0 := (6, .inl (fun _ => 0))) rfl (by decide) (by decide +kernel) (Nat.le_of_ble_eq_true rfl) (Nat.le_of_ble_eq_true rfl) (Nat.le_of_ble_eq_true rfl) dX3_init_39 (q := (b + 5)) rfl (fun H hz => ?_)
  replace hz : Zc E b [.inr (3, [.ref (b + 1), .ref (b + 2), .ref (b + 3), .ref (b + 4), .null, .null, .int 0, .int 0, .int 0, .int 0, .int 0]), .inl (E.2.2.2.1 0, (10, .inl (fun _ => 0))), .inl (E.2.2.2.1 0, (10, .inl (fun _ => 0))), .inl (E.2.2.2.1 0, (10, .inl (fun _ => 0))), .inl (E.2.2.2.1 0, (120, .inl (fun _ => 0))), .inl (E.2.2.2.1 0, (6, .inl (fun _ => 0)))] s H _ := hz
  refine z_put C hz (c0 := 0) (Tf := TX3) (N := 11) (k := 4) (ty := tyX3 4) rfl rfl inX3 tyX3 tyX3_ok nmX3 (by decide) kw_371 rfl rfl (by decide +kernel) rfl rfl (Nat.le_of_ble_eq_true rfl) dX3_init_41 (q := b) rfl (fun H locs hz => ?_)
  replace hz : Zc E b [.inr (3, [.ref (b + 1), .ref (b + 2), .ref (b + 3), .ref (b + 4), .ref (b + 5), .null, .int 0, .int 0, .int 0, .int 0, .int 0]), .inl (E.2.2.2.1 0, (10, .inl (fun _ => 0))), .inl (E.2.2.2.1 0, (10, .inl (fun _ => 0))), .inl (E.2.2.2.1 0, (10, .inl (fun _ => 0))), .inl (E.2.2.2.1 0, (120, .inl (fun _ => 0))), .inl (E.2.2.2.1 0, (6, .inl (fun _ => 0)))] s H _ := hz
  refine lv_aload_n hx hb dX3_init_44 rfl (lv_at hl 0 rfl) ?_
  refine lv_sipush (v := 4800) hx hb dX3_init_45 (by decide) ?_
  refine z_newa C hz (atype := .int) (ty := .int) rfl kw_139 (t0 := 0) rfl (fun _ _ h => h) (N := 4800) (a0 := (4800, .inl (fun _ => 0))) rfl (by decide) (by decide +kernel) (Nat.le_of_ble_eq_true rfl) (Nat.le_of_ble_eq_true rfl) (Nat.le_of_ble_eq_true rfl) dX3_init_48 (q := (b + 6)) rfl (fun H hz => ?_)
  replace hz : Zc E b [.inr (3, [.ref (b + 1), .ref (b + 2), .ref (b + 3), .ref (b + 4), .ref (b + 5), .null, .int 0, .int 0, .int 0, .int 0, .int 0]), .inl (E.2.2.2.1 0, (10, .inl (fun _ => 0))), .inl (E.2.2.2.1 0, (10, .inl (fun _ => 0))), .inl (E.2.2.2.1 0, (10, .inl (fun _ => 0))), .inl (E.2.2.2.1 0, (120, .inl (fun _ => 0))), .inl (E.2.2.2.1 0, (6, .inl (fun _ => 0))), .inl (E.2.2.2.1 0, (4800, .inl (fun _ => 0)))] s H _ := hz
  refine z_put C hz (c0 := 0) (Tf := TX3) (N := 11) (k := 5) (ty := tyX3 5) rfl rfl inX3 tyX3 tyX3_ok nmX3 (by decide) kw_372 rfl rfl (by decide +kernel) rfl rfl (Nat.le_of_ble_eq_true rfl) dX3_init_50 (q := b) rfl (fun H locs hz => ?_)
  replace hz : Zc E b [.inr (3, [.ref (b + 1), .ref (b + 2), .ref (b + 3), .ref (b + 4), .ref (b + 5), .ref (b + 6), .int 0, .int 0, .int 0, .int 0, .int 0]), .inl (E.2.2.2.1 0, (10, .inl (fun _ => 0))), .inl (E.2.2.2.1 0, (10, .inl (fun _ => 0))), .inl (E.2.2.2.1 0, (10, .inl (fun _ => 0))), .inl (E.2.2.2.1 0, (120, .inl (fun _ => 0))), .inl (E.2.2.2.1 0, (6, .inl (fun _ => 0))), .inl (E.2.2.2.1 0, (4800, .inl (fun _ => 0)))] s H _ := hz
  exact z_ret C hz rfl dX3_init_53
def es_X4 (E : EV) (b : Nat) : List va_E := [.inr (4, [.ref (b + 1), .ref (b + 2), .ref (b + 3), .ref (b + 4), .int 0]), .inl (E.2.2.2.1 0, (6, .inl (fun _ => 0))), .inl (E.2.2.2.1 0, (6, .inl (fun _ => 0))), .inl (E.2.2.2.1 0, (6, .inl (fun _ => 0))), .inl (E.2.2.2.1 0, (6, .inl (fun _ => 0)))]
theorem len_X4 (E : EV) (b : Nat) : (es_X4 E b).length = 5 := rfl
theorem yc_X4 : yC yX4_init cX4_init 1 := ⟨⟨by decide +kernel, by decide +kernel, by decide +kernel⟩, kw_222, kw_83, kw_221, rfl⟩
set_option maxHeartbeats 4000000 in
set_option maxRecDepth 100000 in
theorem mc_X4 (l : Launch) (E : EV) : MC l E yX4_init cX4_init 1 1 20 4 24 (.inr (4, [.null, .null, .null, .null, .int 0])) (es_X4 E) := by
  intro b
  refine mc_start RX4 (by decide +kernel) rfl rfl (Nat.le_of_ble_eq_true rfl) (fun p e s m args below meth c ls C hz hl => ?_)
  have hx := C.1
  have hb := C.2.1
  refine lv_aload_n hx hb dX4_init_0 rfl (lv_at hl 0 rfl) ?_
  refine z_obj C hl.1 kw_223 kw_103 kw_objcode (Nat.le_of_ble_eq_true rfl) (Nat.le_of_ble_eq_true rfl) (Nat.le_of_ble_eq_true rfl) dX4_init_1 ?_
  refine lv_aload_n hx hb dX4_init_4 rfl (lv_at hl 0 rfl) ?_
  refine lv_bipush (v := 6) hx hb dX4_init_5 (by decide) ?_
  refine z_newa C hz (atype := .int) (ty := .int) rfl kw_139 (t0 := 0) rfl (fun _ _ h => h) (N := 6) (a0 := (6, .inl (fun _ => 0))) rfl (by decide) (by decide +kernel) (Nat.le_of_ble_eq_true rfl) (Nat.le_of_ble_eq_true rfl) (Nat.le_of_ble_eq_true rfl) dX4_init_7 (q := (b + 1)) rfl (fun H hz => ?_)
  replace hz : Zc E b [.inr (4, [.null, .null, .null, .null, .int 0]), .inl (E.2.2.2.1 0, (6, .inl (fun _ => 0)))] s H _ := hz
  refine z_put C hz (c0 := 0) (Tf := TX4) (N := 5) (k := 0) (ty := tyX4 0) rfl rfl inX4 tyX4 tyX4_ok nmX4 (by decide) kw_224 rfl rfl (by decide +kernel) rfl rfl (Nat.le_of_ble_eq_true rfl) dX4_init_9 (q := b) rfl (fun H locs hz => ?_)
  replace hz : Zc E b [.inr (4, [.ref (b + 1), .null, .null, .null, .int 0]), .inl (E.2.2.2.1 0, (6, .inl (fun _ => 0)))] s H _ := hz
  refine lv_aload_n hx hb dX4_init_12 rfl (lv_at hl 0 rfl) ?_
  refine lv_bipush (v := 6) hx hb dX4_init_13 (by decide) ?_
  refine z_newa C hz (atype := .int) (ty := .int) rfl kw_139 (t0 := 0) rfl (fun _ _ h => h) (N := 6) (a0 := (6, .inl (fun _ => 0))) rfl (by decide) (by decide +kernel) (Nat.le_of_ble_eq_true rfl) (Nat.le_of_ble_eq_true rfl) (Nat.le_of_ble_eq_true rfl) dX4_init_15 (q := (b + 2)) rfl (fun H hz => ?_)
  replace hz : Zc E b [.inr (4, [.ref (b + 1), .null, .null, .null, .int 0]), .inl (E.2.2.2.1 0, (6, .inl (fun _ => 0))), .inl (E.2.2.2.1 0, (6, .inl (fun _ => 0)))] s H _ := hz
  refine z_put C hz (c0 := 0) (Tf := TX4) (N := 5) (k := 1) (ty := tyX4 1) rfl rfl inX4 tyX4 tyX4_ok nmX4 (by decide) kw_225 rfl rfl (by decide +kernel) rfl rfl (Nat.le_of_ble_eq_true rfl) dX4_init_17 (q := b) rfl (fun H locs hz => ?_)
  replace hz : Zc E b [.inr (4, [.ref (b + 1), .ref (b + 2), .null, .null, .int 0]), .inl (E.2.2.2.1 0, (6, .inl (fun _ => 0))), .inl (E.2.2.2.1 0, (6, .inl (fun _ => 0)))] s H _ := hz
  refine lv_aload_n hx hb dX4_init_20 rfl (lv_at hl 0 rfl) ?_
  refine lv_bipush (v := 6) hx hb dX4_init_21 (by decide) ?_
  refine z_newa C hz (atype := .int) (ty := .int) rfl kw_139 (t0 := 0) rfl (fun _ _ h => h) (N := 6) (a0 := (6, .inl (fun _ => 0))) rfl (by decide) (by decide +kernel) (Nat.le_of_ble_eq_true rfl) (Nat.le_of_ble_eq_true rfl) (Nat.le_of_ble_eq_true rfl) dX4_init_23 (q := (b + 3)) rfl (fun H hz => ?_)
  replace hz : Zc E b [.inr (4, [.ref (b + 1), .ref (b + 2), .null, .null, .int 0]), .inl (E.2.2.2.1 0, (6, .inl (fun _ => 0))), .inl (E.2.2.2.1 0, (6, .inl (fun _ => 0))), .inl (E.2.2.2.1 0, (6, .inl (fun _ => 0)))] s H _ := hz
  refine z_put C hz (c0 := 0) (Tf := TX4) (N := 5) (k := 2) (ty := tyX4 2) rfl rfl inX4 tyX4 tyX4_ok nmX4 (by decide) kw_226 rfl rfl (by decide +kernel) rfl rfl (Nat.le_of_ble_eq_true rfl) dX4_init_25 (q := b) rfl (fun H locs hz => ?_)
  replace hz : Zc E b [.inr (4, [.ref (b + 1), .ref (b + 2), .ref (b + 3), .null, .int 0]), .inl (E.2.2.2.1 0, (6, .inl (fun _ => 0))), .inl (E.2.2.2.1 0, (6, .inl (fun _ => 0))), .inl (E.2.2.2.1 0, (6, .inl (fun _ => 0)))] s H _ := hz
  refine lv_aload_n hx hb dX4_init_28 rfl (lv_at hl 0 rfl) ?_
  refine lv_bipush (v := 6) hx hb dX4_init_29 (by decide) ?_
  refine z_newa C hz (atype := .int) (ty := .int) rfl kw_139 (t0 := 0) rfl (fun _ _ h => h) (N := 6) (a0 := (6, .inl (fun _ => 0))) rfl (by decide) (by decide +kernel) (Nat.le_of_ble_eq_true rfl) (Nat.le_of_ble_eq_true rfl) (Nat.le_of_ble_eq_true rfl) dX4_init_31 (q := (b + 4)) rfl (fun H hz => ?_)
  replace hz : Zc E b [.inr (4, [.ref (b + 1), .ref (b + 2), .ref (b + 3), .null, .int 0]), .inl (E.2.2.2.1 0, (6, .inl (fun _ => 0))), .inl (E.2.2.2.1 0, (6, .inl (fun _ => 0))), .inl (E.2.2.2.1 0, (6, .inl (fun _ => 0))), .inl (E.2.2.2.1 0, (6, .inl (fun _ => 0)))] s H _ := hz
  refine z_put C hz (c0 := 0) (Tf := TX4) (N := 5) (k := 3) (ty := tyX4 3) rfl rfl inX4 tyX4 tyX4_ok nmX4 (by decide) kw_227 rfl rfl (by decide +kernel) rfl rfl (Nat.le_of_ble_eq_true rfl) dX4_init_33 (q := b) rfl (fun H locs hz => ?_)
  replace hz : Zc E b [.inr (4, [.ref (b + 1), .ref (b + 2), .ref (b + 3), .ref (b + 4), .int 0]), .inl (E.2.2.2.1 0, (6, .inl (fun _ => 0))), .inl (E.2.2.2.1 0, (6, .inl (fun _ => 0))), .inl (E.2.2.2.1 0, (6, .inl (fun _ => 0))), .inl (E.2.2.2.1 0, (6, .inl (fun _ => 0)))] s H _ := hz
  exact z_ret C hz rfl dX4_init_36
def es_X5 (E : EV) (b : Nat) : List va_E := [.inr (5, [.ref (b + 1), .ref (b + 2), .ref (b + 3), .ref (b + 4), .int (1 : Int32), .int (1 : Int32), .null, .null, .null, .int 0, .int 0, .int 0, .int 0, .int 0, .int 0]), .inl (E.2.2.2.1 0, (4200, .inl (fun _ => 0))), .inl (E.2.2.2.1 0, (4200, .inl (fun _ => 0))), .inl (E.2.2.2.1 0, (21600, .inl (fun _ => 0))), .inl (E.2.2.2.1 0, (21600, .inl (fun _ => 0)))]
theorem len_X5 (E : EV) (b : Nat) : (es_X5 E b).length = 5 := rfl
theorem yc_X5 : yC yX5_init cX5_init 1 := ⟨⟨by decide +kernel, by decide +kernel, by decide +kernel⟩, kw_290, kw_85, kw_289, rfl⟩
set_option maxHeartbeats 4000000 in
set_option maxRecDepth 100000 in
theorem mc_X5 (l : Launch) (E : EV) : MC l E yX5_init cX5_init 1 1 20 4 51600 (.inr (5, [.null, .null, .null, .null, .int 0, .int 0, .null, .null, .null, .int 0, .int 0, .int 0, .int 0, .int 0, .int 0])) (es_X5 E) := by
  intro b
  refine mc_start RX5 (by decide +kernel) rfl rfl (Nat.le_of_ble_eq_true rfl) (fun p e s m args below meth c ls C hz hl => ?_)
  have hx := C.1
  have hb := C.2.1
  refine lv_aload_n hx hb dX5_init_0 rfl (lv_at hl 0 rfl) ?_
  refine z_obj C hl.1 kw_291 kw_103 kw_objcode (Nat.le_of_ble_eq_true rfl) (Nat.le_of_ble_eq_true rfl) (Nat.le_of_ble_eq_true rfl) dX5_init_1 ?_
  refine lv_aload_n hx hb dX5_init_4 rfl (lv_at hl 0 rfl) ?_
  refine lv_sipush (v := 4200) hx hb dX5_init_5 (by decide) ?_
  refine z_newa C hz (atype := .int) (ty := .int) rfl kw_139 (t0 := 0) rfl (fun _ _ h => h) (N := 4200) (a0 := (4200, .inl (fun _ => 0))) rfl (by decide) (by decide +kernel) (Nat.le_of_ble_eq_true rfl) (Nat.le_of_ble_eq_true rfl) (Nat.le_of_ble_eq_true rfl) dX5_init_8 (q := (b + 1)) rfl (fun H hz => ?_)
  replace hz : Zc E b [.inr (5, [.null, .null, .null, .null, .int 0, .int 0, .null, .null, .null, .int 0, .int 0, .int 0, .int 0, .int 0, .int 0]), .inl (E.2.2.2.1 0, (4200, .inl (fun _ => 0)))] s H _ := hz
  refine z_put C hz (c0 := 0) (Tf := TX5) (N := 15) (k := 0) (ty := tyX5 0) rfl rfl inX5 tyX5 tyX5_ok nmX5 (by decide) kw_292 rfl rfl (by decide +kernel) rfl rfl (Nat.le_of_ble_eq_true rfl) dX5_init_10 (q := b) rfl (fun H locs hz => ?_)
  replace hz : Zc E b [.inr (5, [.ref (b + 1), .null, .null, .null, .int 0, .int 0, .null, .null, .null, .int 0, .int 0, .int 0, .int 0, .int 0, .int 0]), .inl (E.2.2.2.1 0, (4200, .inl (fun _ => 0)))] s H _ := hz
  refine lv_aload_n hx hb dX5_init_13 rfl (lv_at hl 0 rfl) ?_
  refine lv_aload_n hx hb dX5_init_14 rfl (lv_at hl 0 rfl) ?_
  refine z_get C hz (c0 := 0) (Tf := TX5) (N := 15) (k := 0) rfl rfl inX5 (by decide) kw_292 rfl rfl dX5_init_15 (q := b) rfl ?_
  refine z_alen C hz (c0 := 1) rfl (v := 4200) rfl dX5_init_18 (q := (b + 1)) rfl ?_
  refine z_newa C hz (atype := .int) (ty := .int) rfl kw_139 (t0 := 0) rfl (fun _ _ h => h) (N := 4200) (a0 := (4200, .inl (fun _ => 0))) rfl (by decide) (by decide +kernel) (Nat.le_of_ble_eq_true rfl) (Nat.le_of_ble_eq_true rfl) (Nat.le_of_ble_eq_true rfl) dX5_init_19 (q := (b + 2)) rfl (fun H hz => ?_)
  replace hz : Zc E b [.inr (5, [.ref (b + 1), .null, .null, .null, .int 0, .int 0, .null, .null, .null, .int 0, .int 0, .int 0, .int 0, .int 0, .int 0]), .inl (E.2.2.2.1 0, (4200, .inl (fun _ => 0))), .inl (E.2.2.2.1 0, (4200, .inl (fun _ => 0)))] s H _ := hz
  refine z_put C hz (c0 := 0) (Tf := TX5) (N := 15) (k := 1) (ty := tyX5 1) rfl rfl inX5 tyX5 tyX5_ok nmX5 (by decide) kw_293 rfl rfl (by decide +kernel) rfl rfl (Nat.le_of_ble_eq_true rfl) dX5_init_21 (q := b) rfl (fun H locs hz => ?_)
  replace hz : Zc E b [.inr (5, [.ref (b + 1), .ref (b + 2), .null, .null, .int 0, .int 0, .null, .null, .null, .int 0, .int 0, .int 0, .int 0, .int 0, .int 0]), .inl (E.2.2.2.1 0, (4200, .inl (fun _ => 0))), .inl (E.2.2.2.1 0, (4200, .inl (fun _ => 0)))] s H _ := hz
  refine lv_aload_n hx hb dX5_init_24 rfl (lv_at hl 0 rfl) ?_
  refine lv_sipush (v := 21600) hx hb dX5_init_25 (by decide) ?_
  refine z_newa C hz (atype := .int) (ty := .int) rfl kw_139 (t0 := 0) rfl (fun _ _ h => h) (N := 21600) (a0 := (21600, .inl (fun _ => 0))) rfl (by decide) (by decide +kernel) (Nat.le_of_ble_eq_true rfl) (Nat.le_of_ble_eq_true rfl) (Nat.le_of_ble_eq_true rfl) dX5_init_28 (q := (b + 3)) rfl (fun H hz => ?_)
  replace hz : Zc E b [.inr (5, [.ref (b + 1), .ref (b + 2), .null, .null, .int 0, .int 0, .null, .null, .null, .int 0, .int 0, .int 0, .int 0, .int 0, .int 0]), .inl (E.2.2.2.1 0, (4200, .inl (fun _ => 0))), .inl (E.2.2.2.1 0, (4200, .inl (fun _ => 0))), .inl (E.2.2.2.1 0, (21600, .inl (fun _ => 0)))] s H _ := hz
  refine z_put C hz (c0 := 0) (Tf := TX5) (N := 15) (k := 2) (ty := tyX5 2) rfl rfl inX5 tyX5 tyX5_ok nmX5 (by decide) kw_294 rfl rfl (by decide +kernel) rfl rfl (Nat.le_of_ble_eq_true rfl) dX5_init_30 (q := b) rfl (fun H locs hz => ?_)
  replace hz : Zc E b [.inr (5, [.ref (b + 1), .ref (b + 2), .ref (b + 3), .null, .int 0, .int 0, .null, .null, .null, .int 0, .int 0, .int 0, .int 0, .int 0, .int 0]), .inl (E.2.2.2.1 0, (4200, .inl (fun _ => 0))), .inl (E.2.2.2.1 0, (4200, .inl (fun _ => 0))), .inl (E.2.2.2.1 0, (21600, .inl (fun _ => 0)))] s H _ := hz
  refine lv_aload_n hx hb dX5_init_33 rfl (lv_at hl 0 rfl) ?_
  refine lv_aload_n hx hb dX5_init_34 rfl (lv_at hl 0 rfl) ?_
  refine z_get C hz (c0 := 0) (Tf := TX5) (N := 15) (k := 2) rfl rfl inX5 (by decide) kw_294 rfl rfl dX5_init_35 (q := b) rfl ?_
  refine z_alen C hz (c0 := 3) rfl (v := 21600) rfl dX5_init_38 (q := (b + 3)) rfl ?_
  refine z_newa C hz (atype := .int) (ty := .int) rfl kw_139 (t0 := 0) rfl (fun _ _ h => h) (N := 21600) (a0 := (21600, .inl (fun _ => 0))) rfl (by decide) (by decide +kernel) (Nat.le_of_ble_eq_true rfl) (Nat.le_of_ble_eq_true rfl) (Nat.le_of_ble_eq_true rfl) dX5_init_39 (q := (b + 4)) rfl (fun H hz => ?_)
  replace hz : Zc E b [.inr (5, [.ref (b + 1), .ref (b + 2), .ref (b + 3), .null, .int 0, .int 0, .null, .null, .null, .int 0, .int 0, .int 0, .int 0, .int 0, .int 0]), .inl (E.2.2.2.1 0, (4200, .inl (fun _ => 0))), .inl (E.2.2.2.1 0, (4200, .inl (fun _ => 0))), .inl (E.2.2.2.1 0, (21600, .inl (fun _ => 0))), .inl (E.2.2.2.1 0, (21600, .inl (fun _ => 0)))] s H _ := hz
  refine z_put C hz (c0 := 0) (Tf := TX5) (N := 15) (k := 3) (ty := tyX5 3) rfl rfl inX5 tyX5 tyX5_ok nmX5 (by decide) kw_295 rfl rfl (by decide +kernel) rfl rfl (Nat.le_of_ble_eq_true rfl) dX5_init_41 (q := b) rfl (fun H locs hz => ?_)
  replace hz : Zc E b [.inr (5, [.ref (b + 1), .ref (b + 2), .ref (b + 3), .ref (b + 4), .int 0, .int 0, .null, .null, .null, .int 0, .int 0, .int 0, .int 0, .int 0, .int 0]), .inl (E.2.2.2.1 0, (4200, .inl (fun _ => 0))), .inl (E.2.2.2.1 0, (4200, .inl (fun _ => 0))), .inl (E.2.2.2.1 0, (21600, .inl (fun _ => 0))), .inl (E.2.2.2.1 0, (21600, .inl (fun _ => 0)))] s H _ := hz
  refine lv_aload_n hx hb dX5_init_44 rfl (lv_at hl 0 rfl) ?_
  refine lv_iconst (v := 1) hx hb dX5_init_45 (by decide) ?_
  refine z_put C hz (c0 := 0) (Tf := TX5) (N := 15) (k := 4) (ty := tyX5 4) rfl rfl inX5 tyX5 tyX5_ok nmX5 (by decide) kw_296 rfl rfl (by decide +kernel) rfl rfl (Nat.le_of_ble_eq_true rfl) dX5_init_46 (q := b) rfl (fun H locs hz => ?_)
  replace hz : Zc E b [.inr (5, [.ref (b + 1), .ref (b + 2), .ref (b + 3), .ref (b + 4), .int (1 : Int32), .int 0, .null, .null, .null, .int 0, .int 0, .int 0, .int 0, .int 0, .int 0]), .inl (E.2.2.2.1 0, (4200, .inl (fun _ => 0))), .inl (E.2.2.2.1 0, (4200, .inl (fun _ => 0))), .inl (E.2.2.2.1 0, (21600, .inl (fun _ => 0))), .inl (E.2.2.2.1 0, (21600, .inl (fun _ => 0)))] s H _ := hz
  refine lv_aload_n hx hb dX5_init_49 rfl (lv_at hl 0 rfl) ?_
  refine lv_iconst (v := 1) hx hb dX5_init_50 (by decide) ?_
  refine z_put C hz (c0 := 0) (Tf := TX5) (N := 15) (k := 5) (ty := tyX5 5) rfl rfl inX5 tyX5 tyX5_ok nmX5 (by decide) kw_297 rfl rfl (by decide +kernel) rfl rfl (Nat.le_of_ble_eq_true rfl) dX5_init_51 (q := b) rfl (fun H locs hz => ?_)
  replace hz : Zc E b [.inr (5, [.ref (b + 1), .ref (b + 2), .ref (b + 3), .ref (b + 4), .int (1 : Int32), .int (1 : Int32), .null, .null, .null, .int 0, .int 0, .int 0, .int 0, .int 0, .int 0]), .inl (E.2.2.2.1 0, (4200, .inl (fun _ => 0))), .inl (E.2.2.2.1 0, (4200, .inl (fun _ => 0))), .inl (E.2.2.2.1 0, (21600, .inl (fun _ => 0))), .inl (E.2.2.2.1 0, (21600, .inl (fun _ => 0)))] s H _ := hz
  exact z_ret C hz rfl dX5_init_54
def es_X6 (E : EV) (b : Nat) : List va_E := [.inr (6, [.null, .null, .int 0])]
theorem len_X6 (E : EV) (b : Nat) : (es_X6 E b).length = 1 := rfl
theorem yc_X6 : yC yX6_init cX6_init 1 := ⟨⟨by decide +kernel, by decide +kernel, by decide +kernel⟩, kw_274, kw_84, kw_273, rfl⟩
set_option maxHeartbeats 4000000 in
set_option maxRecDepth 100000 in
theorem mc_X6 (l : Launch) (E : EV) : MC l E yX6_init cX6_init 1 1 20 0 0 (.inr (6, [.null, .null, .int 0])) (es_X6 E) := by
  intro b
  refine mc_start RX6 (by decide +kernel) rfl rfl (Nat.le_of_ble_eq_true rfl) (fun p e s m args below meth c ls C hz hl => ?_)
  have hx := C.1
  have hb := C.2.1
  refine lv_aload_n hx hb dX6_init_0 rfl (lv_at hl 0 rfl) ?_
  refine z_obj C hl.1 kw_275 kw_103 kw_objcode (Nat.le_of_ble_eq_true rfl) (Nat.le_of_ble_eq_true rfl) (Nat.le_of_ble_eq_true rfl) dX6_init_1 ?_
  exact z_ret C hz rfl dX6_init_4
def es_X7 (E : EV) (b : Nat) : List va_E := [.inr (7, [.ref (b + 1), .ref (b + 2), .ref (b + 3), .ref (b + 4), .int 0]), .inl (E.2.2.2.1 0, (10, .inl (fun _ => 0))), .inl (E.2.2.2.1 0, (10, .inl (fun _ => 0))), .inl (E.2.2.2.1 0, (10, .inl (fun _ => 0))), .inl (E.2.2.2.1 0, (100, .inl (fun _ => 0)))]
theorem len_X7 (E : EV) (b : Nat) : (es_X7 E b).length = 5 := rfl
theorem yc_X7 : yC yX7_init cX7_init 1 := ⟨⟨by decide +kernel, by decide +kernel, by decide +kernel⟩, kw_175, kw_81, kw_174, rfl⟩
set_option maxHeartbeats 4000000 in
set_option maxRecDepth 100000 in
theorem mc_X7 (l : Launch) (E : EV) : MC l E yX7_init cX7_init 1 1 20 4 130 (.inr (7, [.null, .null, .null, .null, .int 0])) (es_X7 E) := by
  intro b
  refine mc_start RX7 (by decide +kernel) rfl rfl (Nat.le_of_ble_eq_true rfl) (fun p e s m args below meth c ls C hz hl => ?_)
  have hx := C.1
  have hb := C.2.1
  refine lv_aload_n hx hb dX7_init_0 rfl (lv_at hl 0 rfl) ?_
  refine z_obj C hl.1 kw_176 kw_103 kw_objcode (Nat.le_of_ble_eq_true rfl) (Nat.le_of_ble_eq_true rfl) (Nat.le_of_ble_eq_true rfl) dX7_init_1 ?_
  refine lv_aload_n hx hb dX7_init_4 rfl (lv_at hl 0 rfl) ?_
  refine lv_bipush (v := 10) hx hb dX7_init_5 (by decide) ?_
  refine z_newa C hz (atype := .int) (ty := .int) rfl kw_139 (t0 := 0) rfl (fun _ _ h => h) (N := 10) (a0 := (10, .inl (fun _ => 0))) rfl (by decide) (by decide +kernel) (Nat.le_of_ble_eq_true rfl) (Nat.le_of_ble_eq_true rfl) (Nat.le_of_ble_eq_true rfl) dX7_init_7 (q := (b + 1)) rfl (fun H hz => ?_)
  replace hz : Zc E b [.inr (7, [.null, .null, .null, .null, .int 0]), .inl (E.2.2.2.1 0, (10, .inl (fun _ => 0)))] s H _ := hz
  refine z_put C hz (c0 := 0) (Tf := TX7) (N := 5) (k := 0) (ty := tyX7 0) rfl rfl inX7 tyX7 tyX7_ok nmX7 (by decide) kw_177 rfl rfl (by decide +kernel) rfl rfl (Nat.le_of_ble_eq_true rfl) dX7_init_9 (q := b) rfl (fun H locs hz => ?_)
  replace hz : Zc E b [.inr (7, [.ref (b + 1), .null, .null, .null, .int 0]), .inl (E.2.2.2.1 0, (10, .inl (fun _ => 0)))] s H _ := hz
  refine lv_aload_n hx hb dX7_init_12 rfl (lv_at hl 0 rfl) ?_
  refine lv_bipush (v := 10) hx hb dX7_init_13 (by decide) ?_
  refine z_newa C hz (atype := .int) (ty := .int) rfl kw_139 (t0 := 0) rfl (fun _ _ h => h) (N := 10) (a0 := (10, .inl (fun _ => 0))) rfl (by decide) (by decide +kernel) (Nat.le_of_ble_eq_true rfl) (Nat.le_of_ble_eq_true rfl) (Nat.le_of_ble_eq_true rfl) dX7_init_15 (q := (b + 2)) rfl (fun H hz => ?_)
  replace hz : Zc E b [.inr (7, [.ref (b + 1), .null, .null, .null, .int 0]), .inl (E.2.2.2.1 0, (10, .inl (fun _ => 0))), .inl (E.2.2.2.1 0, (10, .inl (fun _ => 0)))] s H _ := hz
  refine z_put C hz (c0 := 0) (Tf := TX7) (N := 5) (k := 1) (ty := tyX7 1) rfl rfl inX7 tyX7 tyX7_ok nmX7 (by decide) kw_181 rfl rfl (by decide +kernel) rfl rfl (Nat.le_of_ble_eq_true rfl) dX7_init_17 (q := b) rfl (fun H locs hz => ?_)
  replace hz : Zc E b [.inr (7, [.ref (b + 1), .ref (b + 2), .null, .null, .int 0]), .inl (E.2.2.2.1 0, (10, .inl (fun _ => 0))), .inl (E.2.2.2.1 0, (10, .inl (fun _ => 0)))] s H _ := hz
  refine lv_aload_n hx hb dX7_init_20 rfl (lv_at hl 0 rfl) ?_
  refine lv_bipush (v := 10) hx hb dX7_init_21 (by decide) ?_
  refine z_newa C hz (atype := .int) (ty := .int) rfl kw_139 (t0 := 0) rfl (fun _ _ h => h) (N := 10) (a0 := (10, .inl (fun _ => 0))) rfl (by decide) (by decide +kernel) (Nat.le_of_ble_eq_true rfl) (Nat.le_of_ble_eq_true rfl) (Nat.le_of_ble_eq_true rfl) dX7_init_23 (q := (b + 3)) rfl (fun H hz => ?_)
  replace hz : Zc E b [.inr (7, [.ref (b + 1), .ref (b + 2), .null, .null, .int 0]), .inl (E.2.2.2.1 0, (10, .inl (fun _ => 0))), .inl (E.2.2.2.1 0, (10, .inl (fun _ => 0))), .inl (E.2.2.2.1 0, (10, .inl (fun _ => 0)))] s H _ := hz
  refine z_put C hz (c0 := 0) (Tf := TX7) (N := 5) (k := 2) (ty := tyX7 2) rfl rfl inX7 tyX7 tyX7_ok nmX7 (by decide) kw_185 rfl rfl (by decide +kernel) rfl rfl (Nat.le_of_ble_eq_true rfl) dX7_init_25 (q := b) rfl (fun H locs hz => ?_)
  replace hz : Zc E b [.inr (7, [.ref (b + 1), .ref (b + 2), .ref (b + 3), .null, .int 0]), .inl (E.2.2.2.1 0, (10, .inl (fun _ => 0))), .inl (E.2.2.2.1 0, (10, .inl (fun _ => 0))), .inl (E.2.2.2.1 0, (10, .inl (fun _ => 0)))] s H _ := hz
  refine lv_aload_n hx hb dX7_init_28 rfl (lv_at hl 0 rfl) ?_
  refine lv_bipush (v := 100) hx hb dX7_init_29 (by decide) ?_
  refine z_newa C hz (atype := .int) (ty := .int) rfl kw_139 (t0 := 0) rfl (fun _ _ h => h) (N := 100) (a0 := (100, .inl (fun _ => 0))) rfl (by decide) (by decide +kernel) (Nat.le_of_ble_eq_true rfl) (Nat.le_of_ble_eq_true rfl) (Nat.le_of_ble_eq_true rfl) dX7_init_31 (q := (b + 4)) rfl (fun H hz => ?_)
  replace hz : Zc E b [.inr (7, [.ref (b + 1), .ref (b + 2), .ref (b + 3), .null, .int 0]), .inl (E.2.2.2.1 0, (10, .inl (fun _ => 0))), .inl (E.2.2.2.1 0, (10, .inl (fun _ => 0))), .inl (E.2.2.2.1 0, (10, .inl (fun _ => 0))), .inl (E.2.2.2.1 0, (100, .inl (fun _ => 0)))] s H _ := hz
  refine z_put C hz (c0 := 0) (Tf := TX7) (N := 5) (k := 3) (ty := tyX7 3) rfl rfl inX7 tyX7 tyX7_ok nmX7 (by decide) kw_187 rfl rfl (by decide +kernel) rfl rfl (Nat.le_of_ble_eq_true rfl) dX7_init_33 (q := b) rfl (fun H locs hz => ?_)
  replace hz : Zc E b [.inr (7, [.ref (b + 1), .ref (b + 2), .ref (b + 3), .ref (b + 4), .int 0]), .inl (E.2.2.2.1 0, (10, .inl (fun _ => 0))), .inl (E.2.2.2.1 0, (10, .inl (fun _ => 0))), .inl (E.2.2.2.1 0, (10, .inl (fun _ => 0))), .inl (E.2.2.2.1 0, (100, .inl (fun _ => 0)))] s H _ := hz
  exact z_ret C hz rfl dX7_init_36
def es_X9 (E : EV) (b : Nat) : List va_E := [.inr (9, [.ref (b + 1), .int 0]), .inl (E.2.2.2.1 1, (120, .inl (fun _ => 0)))]
theorem len_X9 (E : EV) (b : Nat) : (es_X9 E b).length = 2 := rfl
theorem yc_X9 : yC yX9_init cX9_init 1 := ⟨⟨by decide +kernel, by decide +kernel, by decide +kernel⟩, kw_117, kw_78, kw_116, rfl⟩
set_option maxHeartbeats 4000000 in
set_option maxRecDepth 100000 in
theorem mc_X9 (l : Launch) (E : EV) : MC l E yX9_init cX9_init 1 1 20 1 120 (.inr (9, [.null, .int 0])) (es_X9 E) := by
  intro b
  refine mc_start RX9 (by decide +kernel) rfl rfl (Nat.le_of_ble_eq_true rfl) (fun p e s m args below meth c ls C hz hl => ?_)
  have hx := C.1
  have hb := C.2.1
  refine lv_aload_n hx hb dX9_init_0 rfl (lv_at hl 0 rfl) ?_
  refine z_obj C hl.1 kw_118 kw_103 kw_objcode (Nat.le_of_ble_eq_true rfl) (Nat.le_of_ble_eq_true rfl) (Nat.le_of_ble_eq_true rfl) dX9_init_1 ?_
  refine lv_aload_n hx hb dX9_init_4 rfl (lv_at hl 0 rfl) ?_
  refine lv_bipush (v := 120) hx hb dX9_init_5 (by decide) ?_
  refine z_newa C hz (atype := .byte) (ty := .byte) rfl kw_128 (t0 := 1) rfl (fun _ _ h => h) (N := 120) (a0 := (120, .inl (fun _ => 0))) rfl (by decide) (by decide +kernel) (Nat.le_of_ble_eq_true rfl) (Nat.le_of_ble_eq_true rfl) (Nat.le_of_ble_eq_true rfl) dX9_init_7 (q := (b + 1)) rfl (fun H hz => ?_)
  replace hz : Zc E b [.inr (9, [.null, .int 0]), .inl (E.2.2.2.1 1, (120, .inl (fun _ => 0)))] s H _ := hz
  refine z_put C hz (c0 := 0) (Tf := TX9) (N := 2) (k := 0) (ty := tyX9 0) rfl rfl inX9 tyX9 tyX9_ok nmX9 (by decide) kw_119 rfl rfl (by decide +kernel) rfl rfl (Nat.le_of_ble_eq_true rfl) dX9_init_9 (q := b) rfl (fun H locs hz => ?_)
  replace hz : Zc E b [.inr (9, [.ref (b + 1), .int 0]), .inl (E.2.2.2.1 1, (120, .inl (fun _ => 0)))] s H _ := hz
  exact z_ret C hz rfl dX9_init_12
def es_X10 (E : EV) (b : Nat) : List va_E := [.inr (10, [.ref (b + 1)]), .inl (E.2.2.2.1 0, 36, .inl (upd (upd (upd (upd (upd (upd (fun _ => 0) (0 : Int32).toNatClampNeg (1000)) (7 : Int32).toNatClampNeg (1000)) (14 : Int32).toNatClampNeg (1000)) (21 : Int32).toNatClampNeg (1000)) (28 : Int32).toNatClampNeg (1000)) (35 : Int32).toNatClampNeg (1000)))]
theorem len_X10 (E : EV) (b : Nat) : (es_X10 E b).length = 2 := rfl
theorem yc_X10 : yC yX10_init cX10_init 2 := ⟨⟨by decide +kernel, by decide +kernel, by decide +kernel⟩, kw_133, kw_79, kw_132, rfl⟩
set_option maxHeartbeats 4000000 in
set_option maxRecDepth 100000 in
theorem mc_X10 (l : Launch) (E : EV) : MC l E yX10_init cX10_init 2 1 20 1 36 (.inr (10, [.null])) (es_X10 E) := by
  intro b
  refine mc_start RX10 (by decide +kernel) rfl rfl (Nat.le_of_ble_eq_true rfl) (fun p e s m args below meth c ls C hz hl => ?_)
  have hx := C.1
  have hb := C.2.1
  refine lv_aload_n hx hb dX10_init_0 rfl (lv_at hl 0 rfl) ?_
  refine z_obj C hl.1 kw_134 kw_103 kw_objcode (Nat.le_of_ble_eq_true rfl) (Nat.le_of_ble_eq_true rfl) (Nat.le_of_ble_eq_true rfl) dX10_init_1 ?_
  refine lv_aload_n hx hb dX10_init_4 rfl (lv_at hl 0 rfl) ?_
  refine lv_bipush (v := 36) hx hb dX10_init_5 (by decide) ?_
  refine z_newa C hz (atype := .int) (ty := .int) rfl kw_139 (t0 := 0) rfl (fun _ _ h => h) (N := 36) (a0 := (36, .inl (fun _ => 0))) rfl (by decide) (by decide +kernel) (Nat.le_of_ble_eq_true rfl) (Nat.le_of_ble_eq_true rfl) (Nat.le_of_ble_eq_true rfl) dX10_init_7 (q := (b + 1)) rfl (fun H hz => ?_)
  replace hz : Zc E b [.inr (10, [.null]), .inl (E.2.2.2.1 0, (36, .inl (fun _ => 0)))] s H _ := hz
  refine z_put C hz (c0 := 0) (Tf := TX10) (N := 1) (k := 0) (ty := tyX10 0) rfl rfl inX10 tyX10 tyX10_ok nmX10 (by decide) kw_135 rfl rfl (by decide +kernel) rfl rfl (Nat.le_of_ble_eq_true rfl) dX10_init_9 (q := b) rfl (fun H locs hz => ?_)
  replace hz : Zc E b [.inr (10, [.ref (b + 1)]), .inl (E.2.2.2.1 0, (36, .inl (fun _ => 0)))] s H _ := hz
  refine lv_iconst (v := 0) hx hb dX10_init_12 (by decide) ?_
  refine lv_istore_n (lv' := [(1, .int (0 : Int32)), (0, .ref b)]) hx hb dX10_init_13 rfl hl (by decide) rfl (fun ls hl => ?_)
  refine lv_iload_n hx hb dX10_init_14 rfl (lv_at hl 0 rfl) ?_
  refine lv_bipush (v := 6) hx hb dX10_init_15 (by decide) ?_
  refine lv_icmp_ge (tgt := 40) hx hb dX10_init_17 (by decide) (fun q => absurd q (by decide)) (fun _ => ?_)
  refine lv_aload_n hx hb dX10_init_20 rfl (lv_at hl 1 rfl) ?_
  refine z_get C hz (c0 := 0) (Tf := TX10) (N := 1) (k := 0) rfl rfl inX10 (by decide) kw_135 rfl rfl dX10_init_21 (q := b) rfl ?_
  refine lv_iload_n hx hb dX10_init_24 rfl (lv_at hl 0 rfl) ?_
  refine lv_bipush (v := 6) hx hb dX10_init_25 (by decide) ?_
  refine lv_imul hx hb dX10_init_27 ?_
  refine q_top (y := 0) (by decide) ?_
  refine lv_iload_n hx hb dX10_init_28 rfl (lv_at hl 0 rfl) ?_
  refine lv_iadd hx hb dX10_init_29 ?_
  refine q_top (y := 0) (by decide) ?_
  refine lv_sipush (v := 1000) hx hb dX10_init_30 (by decide) ?_
  refine z_iast C hz (c0 := 1) rfl (by unfold vp_in; decide) dX10_init_33 (q := (b + 1)) rfl (fun H locs hz => ?_)
  replace hz : Zc E b [.inr (10, [.ref (b + 1)]), .inl (E.2.2.2.1 0, 36, .inl (upd (fun _ => 0) (0 : Int32).toNatClampNeg (1000)))] s H _ := hz
  refine lv_iinc (v := 1) (lv' := [(1, .int (1 : Int32)), (0, .ref b)]) hx hb dX10_init_34 hl (k := 0) rfl (by decide) (by decide) rfl (fun ls hl => ?_)
  refine lv_goto (tgt := 14) hx hb dX10_init_37 (by decide) ?_
  refine lv_iload_n hx hb dX10_init_14 rfl (lv_at hl 0 rfl) ?_
  refine lv_bipush (v := 6) hx hb dX10_init_15 (by decide) ?_
  refine lv_icmp_ge (tgt := 40) hx hb dX10_init_17 (by decide) (fun q => absurd q (by decide)) (fun _ => ?_)
  refine lv_aload_n hx hb dX10_init_20 rfl (lv_at hl 1 rfl) ?_
  refine z_get C hz (c0 := 0) (Tf := TX10) (N := 1) (k := 0) rfl rfl inX10 (by decide) kw_135 rfl rfl dX10_init_21 (q := b) rfl ?_
  refine lv_iload_n hx hb dX10_init_24 rfl (lv_at hl 0 rfl) ?_
  refine lv_bipush (v := 6) hx hb dX10_init_25 (by decide) ?_
  refine lv_imul hx hb dX10_init_27 ?_
  refine q_top (y := 6) (by decide) ?_
  refine lv_iload_n hx hb dX10_init_28 rfl (lv_at hl 0 rfl) ?_
  refine lv_iadd hx hb dX10_init_29 ?_
  refine q_top (y := 7) (by decide) ?_
  refine lv_sipush (v := 1000) hx hb dX10_init_30 (by decide) ?_
  refine z_iast C hz (c0 := 1) rfl (by unfold vp_in; decide) dX10_init_33 (q := (b + 1)) rfl (fun H locs hz => ?_)
  replace hz : Zc E b [.inr (10, [.ref (b + 1)]), .inl (E.2.2.2.1 0, 36, .inl (upd (upd (fun _ => 0) (0 : Int32).toNatClampNeg (1000)) (7 : Int32).toNatClampNeg (1000)))] s H _ := hz
  refine lv_iinc (v := 2) (lv' := [(1, .int (2 : Int32)), (0, .ref b)]) hx hb dX10_init_34 hl (k := 0) rfl (by decide) (by decide) rfl (fun ls hl => ?_)
  refine lv_goto (tgt := 14) hx hb dX10_init_37 (by decide) ?_
  refine lv_iload_n hx hb dX10_init_14 rfl (lv_at hl 0 rfl) ?_
  refine lv_bipush (v := 6) hx hb dX10_init_15 (by decide) ?_
  refine lv_icmp_ge (tgt := 40) hx hb dX10_init_17 (by decide) (fun q => absurd q (by decide)) (fun _ => ?_)
  refine lv_aload_n hx hb dX10_init_20 rfl (lv_at hl 1 rfl) ?_
  refine z_get C hz (c0 := 0) (Tf := TX10) (N := 1) (k := 0) rfl rfl inX10 (by decide) kw_135 rfl rfl dX10_init_21 (q := b) rfl ?_
  refine lv_iload_n hx hb dX10_init_24 rfl (lv_at hl 0 rfl) ?_
  refine lv_bipush (v := 6) hx hb dX10_init_25 (by decide) ?_
  refine lv_imul hx hb dX10_init_27 ?_
  refine q_top (y := 12) (by decide) ?_
  refine lv_iload_n hx hb dX10_init_28 rfl (lv_at hl 0 rfl) ?_
  refine lv_iadd hx hb dX10_init_29 ?_
  refine q_top (y := 14) (by decide) ?_
  refine lv_sipush (v := 1000) hx hb dX10_init_30 (by decide) ?_
  refine z_iast C hz (c0 := 1) rfl (by unfold vp_in; decide) dX10_init_33 (q := (b + 1)) rfl (fun H locs hz => ?_)
  replace hz : Zc E b [.inr (10, [.ref (b + 1)]), .inl (E.2.2.2.1 0, 36, .inl (upd (upd (upd (fun _ => 0) (0 : Int32).toNatClampNeg (1000)) (7 : Int32).toNatClampNeg (1000)) (14 : Int32).toNatClampNeg (1000)))] s H _ := hz
  refine lv_iinc (v := 3) (lv' := [(1, .int (3 : Int32)), (0, .ref b)]) hx hb dX10_init_34 hl (k := 0) rfl (by decide) (by decide) rfl (fun ls hl => ?_)
  refine lv_goto (tgt := 14) hx hb dX10_init_37 (by decide) ?_
  refine lv_iload_n hx hb dX10_init_14 rfl (lv_at hl 0 rfl) ?_
  refine lv_bipush (v := 6) hx hb dX10_init_15 (by decide) ?_
  refine lv_icmp_ge (tgt := 40) hx hb dX10_init_17 (by decide) (fun q => absurd q (by decide)) (fun _ => ?_)
  refine lv_aload_n hx hb dX10_init_20 rfl (lv_at hl 1 rfl) ?_
  refine z_get C hz (c0 := 0) (Tf := TX10) (N := 1) (k := 0) rfl rfl inX10 (by decide) kw_135 rfl rfl dX10_init_21 (q := b) rfl ?_
  refine lv_iload_n hx hb dX10_init_24 rfl (lv_at hl 0 rfl) ?_
  refine lv_bipush (v := 6) hx hb dX10_init_25 (by decide) ?_
  refine lv_imul hx hb dX10_init_27 ?_
  refine q_top (y := 18) (by decide) ?_
  refine lv_iload_n hx hb dX10_init_28 rfl (lv_at hl 0 rfl) ?_
  refine lv_iadd hx hb dX10_init_29 ?_
  refine q_top (y := 21) (by decide) ?_
  refine lv_sipush (v := 1000) hx hb dX10_init_30 (by decide) ?_
  refine z_iast C hz (c0 := 1) rfl (by unfold vp_in; decide) dX10_init_33 (q := (b + 1)) rfl (fun H locs hz => ?_)
  replace hz : Zc E b [.inr (10, [.ref (b + 1)]), .inl (E.2.2.2.1 0, 36, .inl (upd (upd (upd (upd (fun _ => 0) (0 : Int32).toNatClampNeg (1000)) (7 : Int32).toNatClampNeg (1000)) (14 : Int32).toNatClampNeg (1000)) (21 : Int32).toNatClampNeg (1000)))] s H _ := hz
  refine lv_iinc (v := 4) (lv' := [(1, .int (4 : Int32)), (0, .ref b)]) hx hb dX10_init_34 hl (k := 0) rfl (by decide) (by decide) rfl (fun ls hl => ?_)
  refine lv_goto (tgt := 14) hx hb dX10_init_37 (by decide) ?_
  refine lv_iload_n hx hb dX10_init_14 rfl (lv_at hl 0 rfl) ?_
  refine lv_bipush (v := 6) hx hb dX10_init_15 (by decide) ?_
  refine lv_icmp_ge (tgt := 40) hx hb dX10_init_17 (by decide) (fun q => absurd q (by decide)) (fun _ => ?_)
  refine lv_aload_n hx hb dX10_init_20 rfl (lv_at hl 1 rfl) ?_
  refine z_get C hz (c0 := 0) (Tf := TX10) (N := 1) (k := 0) rfl rfl inX10 (by decide) kw_135 rfl rfl dX10_init_21 (q := b) rfl ?_
  refine lv_iload_n hx hb dX10_init_24 rfl (lv_at hl 0 rfl) ?_
  refine lv_bipush (v := 6) hx hb dX10_init_25 (by decide) ?_
  refine lv_imul hx hb dX10_init_27 ?_
  refine q_top (y := 24) (by decide) ?_
  refine lv_iload_n hx hb dX10_init_28 rfl (lv_at hl 0 rfl) ?_
  refine lv_iadd hx hb dX10_init_29 ?_
  refine q_top (y := 28) (by decide) ?_
  refine lv_sipush (v := 1000) hx hb dX10_init_30 (by decide) ?_
  refine z_iast C hz (c0 := 1) rfl (by unfold vp_in; decide) dX10_init_33 (q := (b + 1)) rfl (fun H locs hz => ?_)
  replace hz : Zc E b [.inr (10, [.ref (b + 1)]), .inl (E.2.2.2.1 0, 36, .inl (upd (upd (upd (upd (upd (fun _ => 0) (0 : Int32).toNatClampNeg (1000)) (7 : Int32).toNatClampNeg (1000)) (14 : Int32).toNatClampNeg (1000)) (21 : Int32).toNatClampNeg (1000)) (28 : Int32).toNatClampNeg (1000)))] s H _ := hz
  refine lv_iinc (v := 5) (lv' := [(1, .int (5 : Int32)), (0, .ref b)]) hx hb dX10_init_34 hl (k := 0) rfl (by decide) (by decide) rfl (fun ls hl => ?_)
  refine lv_goto (tgt := 14) hx hb dX10_init_37 (by decide) ?_
  refine lv_iload_n hx hb dX10_init_14 rfl (lv_at hl 0 rfl) ?_
  refine lv_bipush (v := 6) hx hb dX10_init_15 (by decide) ?_
  refine lv_icmp_ge (tgt := 40) hx hb dX10_init_17 (by decide) (fun q => absurd q (by decide)) (fun _ => ?_)
  refine lv_aload_n hx hb dX10_init_20 rfl (lv_at hl 1 rfl) ?_
  refine z_get C hz (c0 := 0) (Tf := TX10) (N := 1) (k := 0) rfl rfl inX10 (by decide) kw_135 rfl rfl dX10_init_21 (q := b) rfl ?_
  refine lv_iload_n hx hb dX10_init_24 rfl (lv_at hl 0 rfl) ?_
  refine lv_bipush (v := 6) hx hb dX10_init_25 (by decide) ?_
  refine lv_imul hx hb dX10_init_27 ?_
  refine q_top (y := 30) (by decide) ?_
  refine lv_iload_n hx hb dX10_init_28 rfl (lv_at hl 0 rfl) ?_
  refine lv_iadd hx hb dX10_init_29 ?_
  refine q_top (y := 35) (by decide) ?_
  refine lv_sipush (v := 1000) hx hb dX10_init_30 (by decide) ?_
  refine z_iast C hz (c0 := 1) rfl (by unfold vp_in; decide) dX10_init_33 (q := (b + 1)) rfl (fun H locs hz => ?_)
  replace hz : Zc E b [.inr (10, [.ref (b + 1)]), .inl (E.2.2.2.1 0, 36, .inl (upd (upd (upd (upd (upd (upd (fun _ => 0) (0 : Int32).toNatClampNeg (1000)) (7 : Int32).toNatClampNeg (1000)) (14 : Int32).toNatClampNeg (1000)) (21 : Int32).toNatClampNeg (1000)) (28 : Int32).toNatClampNeg (1000)) (35 : Int32).toNatClampNeg (1000)))] s H _ := hz
  refine lv_iinc (v := 6) (lv' := [(1, .int (6 : Int32)), (0, .ref b)]) hx hb dX10_init_34 hl (k := 0) rfl (by decide) (by decide) rfl (fun ls hl => ?_)
  refine lv_goto (tgt := 14) hx hb dX10_init_37 (by decide) ?_
  refine lv_iload_n hx hb dX10_init_14 rfl (lv_at hl 0 rfl) ?_
  refine lv_bipush (v := 6) hx hb dX10_init_15 (by decide) ?_
  refine lv_icmp_ge (tgt := 40) hx hb dX10_init_17 (by decide) (fun _ => ?_) (fun q => absurd (by decide) q)
  exact z_ret C hz rfl dX10_init_40
def es_X8 (E : EV) (b : Nat) : List va_E := [.inr (8, [.int 0, .ref (b + 1), .ref (b + 3), .ref (b + 5), .ref (b + 6), .ref (b + 11), .ref (b + 14)]), .inr (9, [.ref (b + 2), .int 0]), .inl (E.2.2.2.1 1, (120, .inl (fun _ => 0))), .inr (10, [.ref (b + 4)]), .inl (E.2.2.2.1 0, 36, .inl (upd (upd (upd (upd (upd (upd (fun _ => 0) (0 : Int32).toNatClampNeg (1000)) (7 : Int32).toNatClampNeg (1000)) (14 : Int32).toNatClampNeg (1000)) (21 : Int32).toNatClampNeg (1000)) (28 : Int32).toNatClampNeg (1000)) (35 : Int32).toNatClampNeg (1000))), .inr (2, [.int (-1 : Int32), .int 0, .int 0, .int 0, .int 0, .int 0]), .inr (7, [.ref (b + 7), .ref (b + 8), .ref (b + 9), .ref (b + 10), .int 0]), .inl (E.2.2.2.1 0, (10, .inl (fun _ => 0))), .inl (E.2.2.2.1 0, (10, .inl (fun _ => 0))), .inl (E.2.2.2.1 0, (10, .inl (fun _ => 0))), .inl (E.2.2.2.1 0, (100, .inl (fun _ => 0))), .inr (1, [.ref (b + 12), .ref (b + 13), .int 0]), .inl (E.2.2.2.1 0, (10, .inl (fun _ => 0))), .inl (E.2.2.2.1 0, (10, .inl (fun _ => 0))), .inr (4, [.ref (b + 15), .ref (b + 16), .ref (b + 17), .ref (b + 18), .int 0]), .inl (E.2.2.2.1 0, (6, .inl (fun _ => 0))), .inl (E.2.2.2.1 0, (6, .inl (fun _ => 0))), .inl (E.2.2.2.1 0, (6, .inl (fun _ => 0))), .inl (E.2.2.2.1 0, (6, .inl (fun _ => 0)))]
theorem len_X8 (E : EV) (b : Nat) : (es_X8 E b).length = 19 := rfl
theorem yc_X8 : yC yX8_init cX8_init 1 := ⟨⟨by decide +kernel, by decide +kernel, by decide +kernel⟩, kw_111, kw_77, kw_110, rfl⟩
set_option maxHeartbeats 4000000 in
set_option maxRecDepth 100000 in
theorem mc_X8 (l : Launch) (E : EV) : MC l E yX8_init cX8_init 1 2 41 18 352 (.inr (8, [.int 0, .null, .null, .null, .null, .null, .null])) (es_X8 E) := by
  intro b
  refine mc_start RX8 (by decide +kernel) rfl rfl (Nat.le_of_ble_eq_true rfl) (fun p e s m args below meth c ls C hz hl => ?_)
  have hx := C.1
  have hb := C.2.1
  refine lv_aload_n hx hb dX8_init_0 rfl (lv_at hl 0 rfl) ?_
  refine z_obj C hl.1 kw_112 kw_103 kw_objcode (Nat.le_of_ble_eq_true rfl) (Nat.le_of_ble_eq_true rfl) (Nat.le_of_ble_eq_true rfl) dX8_init_1 ?_
  refine lv_aload_n hx hb dX8_init_4 rfl (lv_at hl 0 rfl) ?_
  refine z_new C hz (ci := 9) (N := 2) (fs := [.null, .int 0]) rfl inX9 tyX9 tyX9_ok kw_113 kw_114 kw_78 bl_9 (Nat.le_of_ble_eq_true rfl) (Nat.le_of_ble_eq_true rfl) dX8_init_5 (q := (b + 1)) rfl (fun H hz => ?_)
  refine lv_dup hx hb dX8_init_8 rfl ?_
  refine z_initN C hl.1 (es := [.inr (8, [.int 0, .null, .null, .null, .null, .null, .null])]) (blank := .inr (9, [.null, .int 0])) (mc_X9 l E) yc_X9 hz (q := (b + 1)) rfl (List.mem_of_getElem? (i := 1) rfl) ⟨Nat.le_of_ble_eq_true rfl, Nat.le_of_ble_eq_true rfl⟩ (Nat.le_of_ble_eq_true rfl) ⟨Nat.le_of_ble_eq_true rfl, Nat.le_of_ble_eq_true rfl⟩ dX8_init_9 (fun H locs hz => ?_)
  replace hz : Zc E b [.inr (8, [.int 0, .null, .null, .null, .null, .null, .null]), .inr (9, [.ref (b + 2), .int 0]), .inl (E.2.2.2.1 1, (120, .inl (fun _ => 0)))] s H _ := hz
  refine z_put C hz (c0 := 0) (Tf := TX8) (N := 7) (k := 1) (ty := tyX8 1) rfl rfl inX8 tyX8 tyX8_ok nmX8 (by decide) kw_243 rfl rfl (by decide +kernel) rfl rfl (Nat.le_of_ble_eq_true rfl) dX8_init_12 (q := b) rfl (fun H locs hz => ?_)
  replace hz : Zc E b [.inr (8, [.int 0, .ref (b + 1), .null, .null, .null, .null, .null]), .inr (9, [.ref (b + 2), .int 0]), .inl (E.2.2.2.1 1, (120, .inl (fun _ => 0)))] s H _ := hz
  refine lv_aload_n hx hb dX8_init_15 rfl (lv_at hl 0 rfl) ?_
  refine z_new C hz (ci := 10) (N := 1) (fs := [.null]) rfl inX10 tyX10 tyX10_ok kw_129 kw_130 kw_79 bl_10 (Nat.le_of_ble_eq_true rfl) (Nat.le_of_ble_eq_true rfl) dX8_init_16 (q := (b + 3)) rfl (fun H hz => ?_)
  refine lv_dup hx hb dX8_init_19 rfl ?_
  refine z_init C hl.1 (es := [.inr (8, [.int 0, .ref (b + 1), .null, .null, .null, .null, .null]), .inr (9, [.ref (b + 2), .int 0]), .inl (E.2.2.2.1 1, (120, .inl (fun _ => 0)))]) (blank := .inr (10, [.null])) (mc_X10 l E) yc_X10 hz (q := (b + 3)) rfl kw_131 ⟨Nat.le_of_ble_eq_true rfl, Nat.le_of_ble_eq_true rfl⟩ (Nat.le_of_ble_eq_true rfl) ⟨Nat.le_of_ble_eq_true rfl, Nat.le_of_ble_eq_true rfl⟩ dX8_init_20 (fun H locs hz => ?_)
  replace hz : Zc E b [.inr (8, [.int 0, .ref (b + 1), .null, .null, .null, .null, .null]), .inr (9, [.ref (b + 2), .int 0]), .inl (E.2.2.2.1 1, (120, .inl (fun _ => 0))), .inr (10, [.ref (b + 4)]), .inl (E.2.2.2.1 0, 36, .inl (upd (upd (upd (upd (upd (upd (fun _ => 0) (0 : Int32).toNatClampNeg (1000)) (7 : Int32).toNatClampNeg (1000)) (14 : Int32).toNatClampNeg (1000)) (21 : Int32).toNatClampNeg (1000)) (28 : Int32).toNatClampNeg (1000)) (35 : Int32).toNatClampNeg (1000)))] s H _ := hz
  refine z_put C hz (c0 := 0) (Tf := TX8) (N := 7) (k := 2) (ty := tyX8 2) rfl rfl inX8 tyX8 tyX8_ok nmX8 (by decide) kw_245 rfl rfl (by decide +kernel) rfl rfl (Nat.le_of_ble_eq_true rfl) dX8_init_23 (q := b) rfl (fun H locs hz => ?_)
  replace hz : Zc E b [.inr (8, [.int 0, .ref (b + 1), .ref (b + 3), .null, .null, .null, .null]), .inr (9, [.ref (b + 2), .int 0]), .inl (E.2.2.2.1 1, (120, .inl (fun _ => 0))), .inr (10, [.ref (b + 4)]), .inl (E.2.2.2.1 0, 36, .inl (upd (upd (upd (upd (upd (upd (fun _ => 0) (0 : Int32).toNatClampNeg (1000)) (7 : Int32).toNatClampNeg (1000)) (14 : Int32).toNatClampNeg (1000)) (21 : Int32).toNatClampNeg (1000)) (28 : Int32).toNatClampNeg (1000)) (35 : Int32).toNatClampNeg (1000)))] s H _ := hz
  refine lv_aload_n hx hb dX8_init_26 rfl (lv_at hl 0 rfl) ?_
  refine z_new C hz (ci := 2) (N := 6) (fs := [.int 0, .int 0, .int 0, .int 0, .int 0, .int 0]) rfl inX2 tyX2 tyX2_ok kw_140 kw_141 kw_80 bl_2 (Nat.le_of_ble_eq_true rfl) (Nat.le_of_ble_eq_true rfl) dX8_init_27 (q := (b + 5)) rfl (fun H hz => ?_)
  refine lv_dup hx hb dX8_init_30 rfl ?_
  refine z_initN C hl.1 (es := [.inr (8, [.int 0, .ref (b + 1), .ref (b + 3), .null, .null, .null, .null]), .inr (9, [.ref (b + 2), .int 0]), .inl (E.2.2.2.1 1, (120, .inl (fun _ => 0))), .inr (10, [.ref (b + 4)]), .inl (E.2.2.2.1 0, 36, .inl (upd (upd (upd (upd (upd (upd (fun _ => 0) (0 : Int32).toNatClampNeg (1000)) (7 : Int32).toNatClampNeg (1000)) (14 : Int32).toNatClampNeg (1000)) (21 : Int32).toNatClampNeg (1000)) (28 : Int32).toNatClampNeg (1000)) (35 : Int32).toNatClampNeg (1000)))]) (blank := .inr (2, [.int 0, .int 0, .int 0, .int 0, .int 0, .int 0])) (mc_X2 l E) yc_X2 hz (q := (b + 5)) rfl (List.mem_of_getElem? (i := 2) rfl) ⟨Nat.le_of_ble_eq_true rfl, Nat.le_of_ble_eq_true rfl⟩ (Nat.le_of_ble_eq_true rfl) ⟨Nat.le_of_ble_eq_true rfl, Nat.le_of_ble_eq_true rfl⟩ dX8_init_31 (fun H locs hz => ?_)
  replace hz : Zc E b [.inr (8, [.int 0, .ref (b + 1), .ref (b + 3), .null, .null, .null, .null]), .inr (9, [.ref (b + 2), .int 0]), .inl (E.2.2.2.1 1, (120, .inl (fun _ => 0))), .inr (10, [.ref (b + 4)]), .inl (E.2.2.2.1 0, 36, .inl (upd (upd (upd (upd (upd (upd (fun _ => 0) (0 : Int32).toNatClampNeg (1000)) (7 : Int32).toNatClampNeg (1000)) (14 : Int32).toNatClampNeg (1000)) (21 : Int32).toNatClampNeg (1000)) (28 : Int32).toNatClampNeg (1000)) (35 : Int32).toNatClampNeg (1000))), .inr (2, [.int (-1 : Int32), .int 0, .int 0, .int 0, .int 0, .int 0])] s H _ := hz
  refine z_put C hz (c0 := 0) (Tf := TX8) (N := 7) (k := 3) (ty := tyX8 3) rfl rfl inX8 tyX8 tyX8_ok nmX8 (by decide) kw_247 rfl rfl (by decide +kernel) rfl rfl (Nat.le_of_ble_eq_true rfl) dX8_init_34 (q := b) rfl (fun H locs hz => ?_)
  replace hz : Zc E b [.inr (8, [.int 0, .ref (b + 1), .ref (b + 3), .ref (b + 5), .null, .null, .null]), .inr (9, [.ref (b + 2), .int 0]), .inl (E.2.2.2.1 1, (120, .inl (fun _ => 0))), .inr (10, [.ref (b + 4)]), .inl (E.2.2.2.1 0, 36, .inl (upd (upd (upd (upd (upd (upd (fun _ => 0) (0 : Int32).toNatClampNeg (1000)) (7 : Int32).toNatClampNeg (1000)) (14 : Int32).toNatClampNeg (1000)) (21 : Int32).toNatClampNeg (1000)) (28 : Int32).toNatClampNeg (1000)) (35 : Int32).toNatClampNeg (1000))), .inr (2, [.int (-1 : Int32), .int 0, .int 0, .int 0, .int 0, .int 0])] s H _ := hz
  refine lv_aload_n hx hb dX8_init_37 rfl (lv_at hl 0 rfl) ?_
  refine z_new C hz (ci := 7) (N := 5) (fs := [.null, .null, .null, .null, .int 0]) rfl inX7 tyX7 tyX7_ok kw_171 kw_172 kw_81 bl_7 (Nat.le_of_ble_eq_true rfl) (Nat.le_of_ble_eq_true rfl) dX8_init_38 (q := (b + 6)) rfl (fun H hz => ?_)
  refine lv_dup hx hb dX8_init_41 rfl ?_
  refine z_initN C hl.1 (es := [.inr (8, [.int 0, .ref (b + 1), .ref (b + 3), .ref (b + 5), .null, .null, .null]), .inr (9, [.ref (b + 2), .int 0]), .inl (E.2.2.2.1 1, (120, .inl (fun _ => 0))), .inr (10, [.ref (b + 4)]), .inl (E.2.2.2.1 0, 36, .inl (upd (upd (upd (upd (upd (upd (fun _ => 0) (0 : Int32).toNatClampNeg (1000)) (7 : Int32).toNatClampNeg (1000)) (14 : Int32).toNatClampNeg (1000)) (21 : Int32).toNatClampNeg (1000)) (28 : Int32).toNatClampNeg (1000)) (35 : Int32).toNatClampNeg (1000))), .inr (2, [.int (-1 : Int32), .int 0, .int 0, .int 0, .int 0, .int 0])]) (blank := .inr (7, [.null, .null, .null, .null, .int 0])) (mc_X7 l E) yc_X7 hz (q := (b + 6)) rfl (List.mem_of_getElem? (i := 3) rfl) ⟨Nat.le_of_ble_eq_true rfl, Nat.le_of_ble_eq_true rfl⟩ (Nat.le_of_ble_eq_true rfl) ⟨Nat.le_of_ble_eq_true rfl, Nat.le_of_ble_eq_true rfl⟩ dX8_init_42 (fun H locs hz => ?_)
  replace hz : Zc E b [.inr (8, [.int 0, .ref (b + 1), .ref (b + 3), .ref (b + 5), .null, .null, .null]), .inr (9, [.ref (b + 2), .int 0]), .inl (E.2.2.2.1 1, (120, .inl (fun _ => 0))), .inr (10, [.ref (b + 4)]), .inl (E.2.2.2.1 0, 36, .inl (upd (upd (upd (upd (upd (upd (fun _ => 0) (0 : Int32).toNatClampNeg (1000)) (7 : Int32).toNatClampNeg (1000)) (14 : Int32).toNatClampNeg (1000)) (21 : Int32).toNatClampNeg (1000)) (28 : Int32).toNatClampNeg (1000)) (35 : Int32).toNatClampNeg (1000))), .inr (2, [.int (-1 : Int32), .int 0, .int 0, .int 0, .int 0, .int 0]), .inr (7, [.ref (b + 7), .ref (b + 8), .ref (b + 9), .ref (b + 10), .int 0]), .inl (E.2.2.2.1 0, (10, .inl (fun _ => 0))), .inl (E.2.2.2.1 0, (10, .inl (fun _ => 0))), .inl (E.2.2.2.1 0, (10, .inl (fun _ => 0))), .inl (E.2.2.2.1 0, (100, .inl (fun _ => 0)))] s H _ := hz
  refine z_put C hz (c0 := 0) (Tf := TX8) (N := 7) (k := 4) (ty := tyX8 4) rfl rfl inX8 tyX8 tyX8_ok nmX8 (by decide) kw_249 rfl rfl (by decide +kernel) rfl rfl (Nat.le_of_ble_eq_true rfl) dX8_init_45 (q := b) rfl (fun H locs hz => ?_)
  replace hz : Zc E b [.inr (8, [.int 0, .ref (b + 1), .ref (b + 3), .ref (b + 5), .ref (b + 6), .null, .null]), .inr (9, [.ref (b + 2), .int 0]), .inl (E.2.2.2.1 1, (120, .inl (fun _ => 0))), .inr (10, [.ref (b + 4)]), .inl (E.2.2.2.1 0, 36, .inl (upd (upd (upd (upd (upd (upd (fun _ => 0) (0 : Int32).toNatClampNeg (1000)) (7 : Int32).toNatClampNeg (1000)) (14 : Int32).toNatClampNeg (1000)) (21 : Int32).toNatClampNeg (1000)) (28 : Int32).toNatClampNeg (1000)) (35 : Int32).toNatClampNeg (1000))), .inr (2, [.int (-1 : Int32), .int 0, .int 0, .int 0, .int 0, .int 0]), .inr (7, [.ref (b + 7), .ref (b + 8), .ref (b + 9), .ref (b + 10), .int 0]), .inl (E.2.2.2.1 0, (10, .inl (fun _ => 0))), .inl (E.2.2.2.1 0, (10, .inl (fun _ => 0))), .inl (E.2.2.2.1 0, (10, .inl (fun _ => 0))), .inl (E.2.2.2.1 0, (100, .inl (fun _ => 0)))] s H _ := hz
  refine lv_aload_n hx hb dX8_init_48 rfl (lv_at hl 0 rfl) ?_
  refine z_new C hz (ci := 1) (N := 3) (fs := [.null, .null, .int 0]) rfl inX1 tyX1 tyX1_ok kw_201 kw_202 kw_82 bl_1 (Nat.le_of_ble_eq_true rfl) (Nat.le_of_ble_eq_true rfl) dX8_init_49 (q := (b + 11)) rfl (fun H hz => ?_)
  refine lv_dup hx hb dX8_init_52 rfl ?_
  refine z_initN C hl.1 (es := [.inr (8, [.int 0, .ref (b + 1), .ref (b + 3), .ref (b + 5), .ref (b + 6), .null, .null]), .inr (9, [.ref (b + 2), .int 0]), .inl (E.2.2.2.1 1, (120, .inl (fun _ => 0))), .inr (10, [.ref (b + 4)]), .inl (E.2.2.2.1 0, 36, .inl (upd (upd (upd (upd (upd (upd (fun _ => 0) (0 : Int32).toNatClampNeg (1000)) (7 : Int32).toNatClampNeg (1000)) (14 : Int32).toNatClampNeg (1000)) (21 : Int32).toNatClampNeg (1000)) (28 : Int32).toNatClampNeg (1000)) (35 : Int32).toNatClampNeg (1000))), .inr (2, [.int (-1 : Int32), .int 0, .int 0, .int 0, .int 0, .int 0]), .inr (7, [.ref (b + 7), .ref (b + 8), .ref (b + 9), .ref (b + 10), .int 0]), .inl (E.2.2.2.1 0, (10, .inl (fun _ => 0))), .inl (E.2.2.2.1 0, (10, .inl (fun _ => 0))), .inl (E.2.2.2.1 0, (10, .inl (fun _ => 0))), .inl (E.2.2.2.1 0, (100, .inl (fun _ => 0)))]) (blank := .inr (1, [.null, .null, .int 0])) (mc_X1 l E) yc_X1 hz (q := (b + 11)) rfl (List.mem_of_getElem? (i := 4) rfl) ⟨Nat.le_of_ble_eq_true rfl, Nat.le_of_ble_eq_true rfl⟩ (Nat.le_of_ble_eq_true rfl) ⟨Nat.le_of_ble_eq_true rfl, Nat.le_of_ble_eq_true rfl⟩ dX8_init_53 (fun H locs hz => ?_)
  replace hz : Zc E b [.inr (8, [.int 0, .ref (b + 1), .ref (b + 3), .ref (b + 5), .ref (b + 6), .null, .null]), .inr (9, [.ref (b + 2), .int 0]), .inl (E.2.2.2.1 1, (120, .inl (fun _ => 0))), .inr (10, [.ref (b + 4)]), .inl (E.2.2.2.1 0, 36, .inl (upd (upd (upd (upd (upd (upd (fun _ => 0) (0 : Int32).toNatClampNeg (1000)) (7 : Int32).toNatClampNeg (1000)) (14 : Int32).toNatClampNeg (1000)) (21 : Int32).toNatClampNeg (1000)) (28 : Int32).toNatClampNeg (1000)) (35 : Int32).toNatClampNeg (1000))), .inr (2, [.int (-1 : Int32), .int 0, .int 0, .int 0, .int 0, .int 0]), .inr (7, [.ref (b + 7), .ref (b + 8), .ref (b + 9), .ref (b + 10), .int 0]), .inl (E.2.2.2.1 0, (10, .inl (fun _ => 0))), .inl (E.2.2.2.1 0, (10, .inl (fun _ => 0))), .inl (E.2.2.2.1 0, (10, .inl (fun _ => 0))), .inl (E.2.2.2.1 0, (100, .inl (fun _ => 0))), .inr (1, [.ref (b + 12), .ref (b + 13), .int 0]), .inl (E.2.2.2.1 0, (10, .inl (fun _ => 0))), .inl (E.2.2.2.1 0, (10, .inl (fun _ => 0)))] s H _ := hz
  refine z_put C hz (c0 := 0) (Tf := TX8) (N := 7) (k := 5) (ty := tyX8 5) rfl rfl inX8 tyX8 tyX8_ok nmX8 (by decide) kw_251 rfl rfl (by decide +kernel) rfl rfl (Nat.le_of_ble_eq_true rfl) dX8_init_56 (q := b) rfl (fun H locs hz => ?_)
  replace hz : Zc E b [.inr (8, [.int 0, .ref (b + 1), .ref (b + 3), .ref (b + 5), .ref (b + 6), .ref (b + 11), .null]), .inr (9, [.ref (b + 2), .int 0]), .inl (E.2.2.2.1 1, (120, .inl (fun _ => 0))), .inr (10, [.ref (b + 4)]), .inl (E.2.2.2.1 0, 36, .inl (upd (upd (upd (upd (upd (upd (fun _ => 0) (0 : Int32).toNatClampNeg (1000)) (7 : Int32).toNatClampNeg (1000)) (14 : Int32).toNatClampNeg (1000)) (21 : Int32).toNatClampNeg (1000)) (28 : Int32).toNatClampNeg (1000)) (35 : Int32).toNatClampNeg (1000))), .inr (2, [.int (-1 : Int32), .int 0, .int 0, .int 0, .int 0, .int 0]), .inr (7, [.ref (b + 7), .ref (b + 8), .ref (b + 9), .ref (b + 10), .int 0]), .inl (E.2.2.2.1 0, (10, .inl (fun _ => 0))), .inl (E.2.2.2.1 0, (10, .inl (fun _ => 0))), .inl (E.2.2.2.1 0, (10, .inl (fun _ => 0))), .inl (E.2.2.2.1 0, (100, .inl (fun _ => 0))), .inr (1, [.ref (b + 12), .ref (b + 13), .int 0]), .inl (E.2.2.2.1 0, (10, .inl (fun _ => 0))), .inl (E.2.2.2.1 0, (10, .inl (fun _ => 0)))] s H _ := hz
  refine lv_aload_n hx hb dX8_init_59 rfl (lv_at hl 0 rfl) ?_
  refine z_new C hz (ci := 4) (N := 5) (fs := [.null, .null, .null, .null, .int 0]) rfl inX4 tyX4 tyX4_ok kw_218 kw_219 kw_83 bl_4 (Nat.le_of_ble_eq_true rfl) (Nat.le_of_ble_eq_true rfl) dX8_init_60 (q := (b + 14)) rfl (fun H hz => ?_)
  refine lv_dup hx hb dX8_init_63 rfl ?_
  refine z_initN C hl.1 (es := [.inr (8, [.int 0, .ref (b + 1), .ref (b + 3), .ref (b + 5), .ref (b + 6), .ref (b + 11), .null]), .inr (9, [.ref (b + 2), .int 0]), .inl (E.2.2.2.1 1, (120, .inl (fun _ => 0))), .inr (10, [.ref (b + 4)]), .inl (E.2.2.2.1 0, 36, .inl (upd (upd (upd (upd (upd (upd (fun _ => 0) (0 : Int32).toNatClampNeg (1000)) (7 : Int32).toNatClampNeg (1000)) (14 : Int32).toNatClampNeg (1000)) (21 : Int32).toNatClampNeg (1000)) (28 : Int32).toNatClampNeg (1000)) (35 : Int32).toNatClampNeg (1000))), .inr (2, [.int (-1 : Int32), .int 0, .int 0, .int 0, .int 0, .int 0]), .inr (7, [.ref (b + 7), .ref (b + 8), .ref (b + 9), .ref (b + 10), .int 0]), .inl (E.2.2.2.1 0, (10, .inl (fun _ => 0))), .inl (E.2.2.2.1 0, (10, .inl (fun _ => 0))), .inl (E.2.2.2.1 0, (10, .inl (fun _ => 0))), .inl (E.2.2.2.1 0, (100, .inl (fun _ => 0))), .inr (1, [.ref (b + 12), .ref (b + 13), .int 0]), .inl (E.2.2.2.1 0, (10, .inl (fun _ => 0))), .inl (E.2.2.2.1 0, (10, .inl (fun _ => 0)))]) (blank := .inr (4, [.null, .null, .null, .null, .int 0])) (mc_X4 l E) yc_X4 hz (q := (b + 14)) rfl (List.mem_of_getElem? (i := 5) rfl) ⟨Nat.le_of_ble_eq_true rfl, Nat.le_of_ble_eq_true rfl⟩ (Nat.le_of_ble_eq_true rfl) ⟨Nat.le_of_ble_eq_true rfl, Nat.le_of_ble_eq_true rfl⟩ dX8_init_64 (fun H locs hz => ?_)
  replace hz : Zc E b [.inr (8, [.int 0, .ref (b + 1), .ref (b + 3), .ref (b + 5), .ref (b + 6), .ref (b + 11), .null]), .inr (9, [.ref (b + 2), .int 0]), .inl (E.2.2.2.1 1, (120, .inl (fun _ => 0))), .inr (10, [.ref (b + 4)]), .inl (E.2.2.2.1 0, 36, .inl (upd (upd (upd (upd (upd (upd (fun _ => 0) (0 : Int32).toNatClampNeg (1000)) (7 : Int32).toNatClampNeg (1000)) (14 : Int32).toNatClampNeg (1000)) (21 : Int32).toNatClampNeg (1000)) (28 : Int32).toNatClampNeg (1000)) (35 : Int32).toNatClampNeg (1000))), .inr (2, [.int (-1 : Int32), .int 0, .int 0, .int 0, .int 0, .int 0]), .inr (7, [.ref (b + 7), .ref (b + 8), .ref (b + 9), .ref (b + 10), .int 0]), .inl (E.2.2.2.1 0, (10, .inl (fun _ => 0))), .inl (E.2.2.2.1 0, (10, .inl (fun _ => 0))), .inl (E.2.2.2.1 0, (10, .inl (fun _ => 0))), .inl (E.2.2.2.1 0, (100, .inl (fun _ => 0))), .inr (1, [.ref (b + 12), .ref (b + 13), .int 0]), .inl (E.2.2.2.1 0, (10, .inl (fun _ => 0))), .inl (E.2.2.2.1 0, (10, .inl (fun _ => 0))), .inr (4, [.ref (b + 15), .ref (b + 16), .ref (b + 17), .ref (b + 18), .int 0]), .inl (E.2.2.2.1 0, (6, .inl (fun _ => 0))), .inl (E.2.2.2.1 0, (6, .inl (fun _ => 0))), .inl (E.2.2.2.1 0, (6, .inl (fun _ => 0))), .inl (E.2.2.2.1 0, (6, .inl (fun _ => 0)))] s H _ := hz
  refine z_put C hz (c0 := 0) (Tf := TX8) (N := 7) (k := 6) (ty := tyX8 6) rfl rfl inX8 tyX8 tyX8_ok nmX8 (by decide) kw_253 rfl rfl (by decide +kernel) rfl rfl (Nat.le_of_ble_eq_true rfl) dX8_init_67 (q := b) rfl (fun H locs hz => ?_)
  replace hz : Zc E b [.inr (8, [.int 0, .ref (b + 1), .ref (b + 3), .ref (b + 5), .ref (b + 6), .ref (b + 11), .ref (b + 14)]), .inr (9, [.ref (b + 2), .int 0]), .inl (E.2.2.2.1 1, (120, .inl (fun _ => 0))), .inr (10, [.ref (b + 4)]), .inl (E.2.2.2.1 0, 36, .inl (upd (upd (upd (upd (upd (upd (fun _ => 0) (0 : Int32).toNatClampNeg (1000)) (7 : Int32).toNatClampNeg (1000)) (14 : Int32).toNatClampNeg (1000)) (21 : Int32).toNatClampNeg (1000)) (28 : Int32).toNatClampNeg (1000)) (35 : Int32).toNatClampNeg (1000))), .inr (2, [.int (-1 : Int32), .int 0, .int 0, .int 0, .int 0, .int 0]), .inr (7, [.ref (b + 7), .ref (b + 8), .ref (b + 9), .ref (b + 10), .int 0]), .inl (E.2.2.2.1 0, (10, .inl (fun _ => 0))), .inl (E.2.2.2.1 0, (10, .inl (fun _ => 0))), .inl (E.2.2.2.1 0, (10, .inl (fun _ => 0))), .inl (E.2.2.2.1 0, (100, .inl (fun _ => 0))), .inr (1, [.ref (b + 12), .ref (b + 13), .int 0]), .inl (E.2.2.2.1 0, (10, .inl (fun _ => 0))), .inl (E.2.2.2.1 0, (10, .inl (fun _ => 0))), .inr (4, [.ref (b + 15), .ref (b + 16), .ref (b + 17), .ref (b + 18), .int 0]), .inl (E.2.2.2.1 0, (6, .inl (fun _ => 0))), .inl (E.2.2.2.1 0, (6, .inl (fun _ => 0))), .inl (E.2.2.2.1 0, (6, .inl (fun _ => 0))), .inl (E.2.2.2.1 0, (6, .inl (fun _ => 0)))] s H _ := hz
  exact z_ret C hz rfl dX8_init_70
def es_X11 (E : EV) (b : Nat) : List va_E := (.inr (11, [.ref (b + 1), .ref (b + 2), .ref (b + 21), .ref (b + 40), .ref (b + 41), .ref (b + 46), .int 0]) :: .inl (E.2.2.2.1 4, 5, .inr (.inr (.inr (.inr (va_up (va_up (va_up (va_up (va_up (fun _ => none) (0 : Int32).toNatClampNeg (some (b + 48))) (1 : Int32).toNatClampNeg (some (b + 55))) (2 : Int32).toNatClampNeg (some (b + 62))) (3 : Int32).toNatClampNeg (some (b + 69))) (4 : Int32).toNatClampNeg (some (b + 76))))))) :: (((((((((es_X8 E (b + 2) ++ es_X8 E (b + 21)) ++ es_X6 E (b + 40)) ++ es_X5 E (b + 41)) ++ es_X0 E (b + 46)) ++ es_X3 E (b + 48)) ++ es_X3 E (b + 55)) ++ es_X3 E (b + 62)) ++ es_X3 E (b + 69)) ++ es_X3 E (b + 76)))
theorem yc_X11 : yC yX11_init cX11_init 2 := ⟨⟨by decide +kernel, by decide +kernel, by decide +kernel⟩, kw_101, kw_76, kw_100, rfl⟩
set_option maxHeartbeats 4000000 in
set_option maxRecDepth 100000 in
theorem mc_X11 (l : Launch) (E : EV) : MC l E yX11_init cX11_init 2 3 61 82 77201 (.inr (11, [.null, .null, .null, .null, .null, .null, .int 0])) (es_X11 E) := by
  intro b
  refine mc_start RX11 (by decide +kernel) rfl rfl (Nat.le_of_ble_eq_true rfl) (fun p e s m args below meth c ls C hz hl => ?_)
  have hx := C.1
  have hb := C.2.1
  refine lv_aload_n hx hb dX11_init_0 rfl (lv_at hl 0 rfl) ?_
  refine z_obj C hl.1 kw_102 kw_103 kw_objcode (Nat.le_of_ble_eq_true rfl) (Nat.le_of_ble_eq_true rfl) (Nat.le_of_ble_eq_true rfl) dX11_init_1 ?_
  refine lv_aload_n hx hb dX11_init_4 rfl (lv_at hl 0 rfl) ?_
  refine lv_iconst (v := 5) hx hb dX11_init_5 (by decide) ?_
  refine z_newq C hz kw_105 (N := 5) (by decide) (by decide +kernel) (Nat.le_of_ble_eq_true rfl) (Nat.le_of_ble_eq_true rfl) (Nat.le_of_ble_eq_true rfl) dX11_init_6 (q := (b + 1)) rfl (fun H hz => ?_)
  replace hz : Zc E b (.inr (11, [.null, .null, .null, .null, .null, .null, .int 0]) :: .inl (E.2.2.2.1 4, 5, .inr (.inr (.inr (.inr (fun _ => none))))) :: []) s H _ := hz
  refine z_put C hz (c0 := 0) (Tf := TX11) (N := 7) (k := 0) (ty := tyX11 0) rfl rfl inX11 tyX11 tyX11_ok nmX11 (by decide) kw_401 rfl rfl (by decide +kernel) rfl rfl (Nat.le_of_ble_eq_true rfl) dX11_init_9 (q := b) rfl (fun H locs hz => ?_)
  replace hz : Zc E b (.inr (11, [.ref (b + 1), .null, .null, .null, .null, .null, .int 0]) :: .inl (E.2.2.2.1 4, 5, .inr (.inr (.inr (.inr (fun _ => none))))) :: []) s H _ := hz
  refine lv_aload_n hx hb dX11_init_12 rfl (lv_at hl 0 rfl) ?_
  refine z_new C hz (ci := 8) (N := 7) (fs := [.int 0, .null, .null, .null, .null, .null, .null]) rfl inX8 tyX8 tyX8_ok kw_107 kw_108 kw_77 bl_8 (Nat.le_of_ble_eq_true rfl) (Nat.le_of_ble_eq_true rfl) dX11_init_13 (q := (b + 2)) (by simp [len_X0, len_X3, len_X5, len_X6, len_X8]) (fun H hz => ?_)
  refine lv_dup hx hb dX11_init_16 rfl ?_
  refine z_initN C hl.1 (es := (.inr (11, [.ref (b + 1), .null, .null, .null, .null, .null, .int 0]) :: .inl (E.2.2.2.1 4, 5, .inr (.inr (.inr (.inr (fun _ => none))))) :: [])) (blank := .inr (8, [.int 0, .null, .null, .null, .null, .null, .null])) (mc_X8 l E) yc_X8 hz (q := (b + 2)) (by simp [len_X0, len_X3, len_X5, len_X6, len_X8]) (List.mem_of_getElem? (i := 0) rfl) ⟨Nat.le_of_ble_eq_true rfl, Nat.le_of_ble_eq_true rfl⟩ (Nat.le_of_ble_eq_true rfl) ⟨Nat.le_of_ble_eq_true rfl, Nat.le_of_ble_eq_true rfl⟩ dX11_init_17 (fun H locs hz => ?_)
  replace hz : Zc E b (.inr (11, [.ref (b + 1), .null, .null, .null, .null, .null, .int 0]) :: .inl (E.2.2.2.1 4, 5, .inr (.inr (.inr (.inr (fun _ => none))))) :: es_X8 E (b + 2)) s H _ := hz
  refine z_put C hz (c0 := 0) (Tf := TX11) (N := 7) (k := 1) (ty := tyX11 1) rfl rfl inX11 tyX11 tyX11_ok nmX11 (by decide) kw_402 rfl rfl (by decide +kernel) rfl rfl (Nat.le_of_ble_eq_true rfl) dX11_init_20 (q := b) rfl (fun H locs hz => ?_)
  replace hz : Zc E b (.inr (11, [.ref (b + 1), .ref (b + 2), .null, .null, .null, .null, .int 0]) :: .inl (E.2.2.2.1 4, 5, .inr (.inr (.inr (.inr (fun _ => none))))) :: es_X8 E (b + 2)) s H _ := hz
  refine lv_aload_n hx hb dX11_init_23 rfl (lv_at hl 0 rfl) ?_
  refine z_new C hz (ci := 8) (N := 7) (fs := [.int 0, .null, .null, .null, .null, .null, .null]) rfl inX8 tyX8 tyX8_ok kw_107 kw_108 kw_77 bl_8 (Nat.le_of_ble_eq_true rfl) (Nat.le_of_ble_eq_true rfl) dX11_init_24 (q := (b + 21)) (by simp [len_X0, len_X3, len_X5, len_X6, len_X8]) (fun H hz => ?_)
  refine lv_dup hx hb dX11_init_27 rfl ?_
  refine z_initN C hl.1 (es := (.inr (11, [.ref (b + 1), .ref (b + 2), .null, .null, .null, .null, .int 0]) :: .inl (E.2.2.2.1 4, 5, .inr (.inr (.inr (.inr (fun _ => none))))) :: es_X8 E (b + 2))) (blank := .inr (8, [.int 0, .null, .null, .null, .null, .null, .null])) (mc_X8 l E) yc_X8 hz (q := (b + 21)) (by simp [len_X0, len_X3, len_X5, len_X6, len_X8]) (List.mem_of_getElem? (i := 0) rfl) ⟨Nat.le_of_ble_eq_true rfl, Nat.le_of_ble_eq_true rfl⟩ (Nat.le_of_ble_eq_true rfl) ⟨Nat.le_of_ble_eq_true rfl, Nat.le_of_ble_eq_true rfl⟩ dX11_init_28 (fun H locs hz => ?_)
  replace hz : Zc E b (.inr (11, [.ref (b + 1), .ref (b + 2), .null, .null, .null, .null, .int 0]) :: .inl (E.2.2.2.1 4, 5, .inr (.inr (.inr (.inr (fun _ => none))))) :: (es_X8 E (b + 2) ++ es_X8 E (b + 21))) s H _ := hz
  refine z_put C hz (c0 := 0) (Tf := TX11) (N := 7) (k := 2) (ty := tyX11 2) rfl rfl inX11 tyX11 tyX11_ok nmX11 (by decide) kw_403 rfl rfl (by decide +kernel) rfl rfl (Nat.le_of_ble_eq_true rfl) dX11_init_31 (q := b) rfl (fun H locs hz => ?_)
  replace hz : Zc E b (.inr (11, [.ref (b + 1), .ref (b + 2), .ref (b + 21), .null, .null, .null, .int 0]) :: .inl (E.2.2.2.1 4, 5, .inr (.inr (.inr (.inr (fun _ => none))))) :: (es_X8 E (b + 2) ++ es_X8 E (b + 21))) s H _ := hz
  refine lv_aload_n hx hb dX11_init_34 rfl (lv_at hl 0 rfl) ?_
  refine z_new C hz (ci := 6) (N := 3) (fs := [.null, .null, .int 0]) rfl inX6 tyX6 tyX6_ok kw_270 kw_271 kw_84 bl_6 (Nat.le_of_ble_eq_true rfl) (Nat.le_of_ble_eq_true rfl) dX11_init_35 (q := (b + 40)) (by simp [len_X0, len_X3, len_X5, len_X6, len_X8]) (fun H hz => ?_)
  refine lv_dup hx hb dX11_init_38 rfl ?_
  refine z_initN C hl.1 (es := (.inr (11, [.ref (b + 1), .ref (b + 2), .ref (b + 21), .null, .null, .null, .int 0]) :: .inl (E.2.2.2.1 4, 5, .inr (.inr (.inr (.inr (fun _ => none))))) :: (es_X8 E (b + 2) ++ es_X8 E (b + 21)))) (blank := .inr (6, [.null, .null, .int 0])) (mc_X6 l E) yc_X6 hz (q := (b + 40)) (by simp [len_X0, len_X3, len_X5, len_X6, len_X8]) (List.mem_of_getElem? (i := 6) rfl) ⟨Nat.le_of_ble_eq_true rfl, Nat.le_of_ble_eq_true rfl⟩ (Nat.le_of_ble_eq_true rfl) ⟨Nat.le_of_ble_eq_true rfl, Nat.le_of_ble_eq_true rfl⟩ dX11_init_39 (fun H locs hz => ?_)
  replace hz : Zc E b (.inr (11, [.ref (b + 1), .ref (b + 2), .ref (b + 21), .null, .null, .null, .int 0]) :: .inl (E.2.2.2.1 4, 5, .inr (.inr (.inr (.inr (fun _ => none))))) :: ((es_X8 E (b + 2) ++ es_X8 E (b + 21)) ++ es_X6 E (b + 40))) s H _ := hz
  refine z_put C hz (c0 := 0) (Tf := TX11) (N := 7) (k := 3) (ty := tyX11 3) rfl rfl inX11 tyX11 tyX11_ok nmX11 (by decide) kw_404 rfl rfl (by decide +kernel) rfl rfl (Nat.le_of_ble_eq_true rfl) dX11_init_42 (q := b) rfl (fun H locs hz => ?_)
  replace hz : Zc E b (.inr (11, [.ref (b + 1), .ref (b + 2), .ref (b + 21), .ref (b + 40), .null, .null, .int 0]) :: .inl (E.2.2.2.1 4, 5, .inr (.inr (.inr (.inr (fun _ => none))))) :: ((es_X8 E (b + 2) ++ es_X8 E (b + 21)) ++ es_X6 E (b + 40))) s H _ := hz
  refine lv_aload_n hx hb dX11_init_45 rfl (lv_at hl 0 rfl) ?_
  refine z_new C hz (ci := 5) (N := 15) (fs := [.null, .null, .null, .null, .int 0, .int 0, .null, .null, .null, .int 0, .int 0, .int 0, .int 0, .int 0, .int 0]) rfl inX5 tyX5 tyX5_ok kw_286 kw_287 kw_85 bl_5 (Nat.le_of_ble_eq_true rfl) (Nat.le_of_ble_eq_true rfl) dX11_init_46 (q := (b + 41)) (by simp [len_X0, len_X3, len_X5, len_X6, len_X8]) (fun H hz => ?_)
  refine lv_dup hx hb dX11_init_49 rfl ?_
  refine z_initN C hl.1 (es := (.inr (11, [.ref (b + 1), .ref (b + 2), .ref (b + 21), .ref (b + 40), .null, .null, .int 0]) :: .inl (E.2.2.2.1 4, 5, .inr (.inr (.inr (.inr (fun _ => none))))) :: ((es_X8 E (b + 2) ++ es_X8 E (b + 21)) ++ es_X6 E (b + 40)))) (blank := .inr (5, [.null, .null, .null, .null, .int 0, .int 0, .null, .null, .null, .int 0, .int 0, .int 0, .int 0, .int 0, .int 0])) (mc_X5 l E) yc_X5 hz (q := (b + 41)) (by simp [len_X0, len_X3, len_X5, len_X6, len_X8]) (List.mem_of_getElem? (i := 7) rfl) ⟨Nat.le_of_ble_eq_true rfl, Nat.le_of_ble_eq_true rfl⟩ (Nat.le_of_ble_eq_true rfl) ⟨Nat.le_of_ble_eq_true rfl, Nat.le_of_ble_eq_true rfl⟩ dX11_init_50 (fun H locs hz => ?_)
  replace hz : Zc E b (.inr (11, [.ref (b + 1), .ref (b + 2), .ref (b + 21), .ref (b + 40), .null, .null, .int 0]) :: .inl (E.2.2.2.1 4, 5, .inr (.inr (.inr (.inr (fun _ => none))))) :: (((es_X8 E (b + 2) ++ es_X8 E (b + 21)) ++ es_X6 E (b + 40)) ++ es_X5 E (b + 41))) s H _ := hz
  refine z_put C hz (c0 := 0) (Tf := TX11) (N := 7) (k := 4) (ty := tyX11 4) rfl rfl inX11 tyX11 tyX11_ok nmX11 (by decide) kw_405 rfl rfl (by decide +kernel) rfl rfl (Nat.le_of_ble_eq_true rfl) dX11_init_53 (q := b) rfl (fun H locs hz => ?_)
  replace hz : Zc E b (.inr (11, [.ref (b + 1), .ref (b + 2), .ref (b + 21), .ref (b + 40), .ref (b + 41), .null, .int 0]) :: .inl (E.2.2.2.1 4, 5, .inr (.inr (.inr (.inr (fun _ => none))))) :: (((es_X8 E (b + 2) ++ es_X8 E (b + 21)) ++ es_X6 E (b + 40)) ++ es_X5 E (b + 41))) s H _ := hz
  refine lv_aload_n hx hb dX11_init_56 rfl (lv_at hl 0 rfl) ?_
  refine z_new C hz (ci := 0) (N := 5) (fs := [.null, .int 0, .int 0, .int 0, .int 0]) rfl inX0 tyX0 tyX0_ok kw_338 kw_339 kw_86 bl_0 (Nat.le_of_ble_eq_true rfl) (Nat.le_of_ble_eq_true rfl) dX11_init_57 (q := (b + 46)) (by simp [len_X0, len_X3, len_X5, len_X6, len_X8]) (fun H hz => ?_)
  refine lv_dup hx hb dX11_init_60 rfl ?_
  refine z_initN C hl.1 (es := (.inr (11, [.ref (b + 1), .ref (b + 2), .ref (b + 21), .ref (b + 40), .ref (b + 41), .null, .int 0]) :: .inl (E.2.2.2.1 4, 5, .inr (.inr (.inr (.inr (fun _ => none))))) :: (((es_X8 E (b + 2) ++ es_X8 E (b + 21)) ++ es_X6 E (b + 40)) ++ es_X5 E (b + 41)))) (blank := .inr (0, [.null, .int 0, .int 0, .int 0, .int 0])) (mc_X0 l E) yc_X0 hz (q := (b + 46)) (by simp [len_X0, len_X3, len_X5, len_X6, len_X8]) (List.mem_of_getElem? (i := 8) rfl) ⟨Nat.le_of_ble_eq_true rfl, Nat.le_of_ble_eq_true rfl⟩ (Nat.le_of_ble_eq_true rfl) ⟨Nat.le_of_ble_eq_true rfl, Nat.le_of_ble_eq_true rfl⟩ dX11_init_61 (fun H locs hz => ?_)
  replace hz : Zc E b (.inr (11, [.ref (b + 1), .ref (b + 2), .ref (b + 21), .ref (b + 40), .ref (b + 41), .null, .int 0]) :: .inl (E.2.2.2.1 4, 5, .inr (.inr (.inr (.inr (fun _ => none))))) :: ((((es_X8 E (b + 2) ++ es_X8 E (b + 21)) ++ es_X6 E (b + 40)) ++ es_X5 E (b + 41)) ++ es_X0 E (b + 46))) s H _ := hz
  refine z_put C hz (c0 := 0) (Tf := TX11) (N := 7) (k := 5) (ty := tyX11 5) rfl rfl inX11 tyX11 tyX11_ok nmX11 (by decide) kw_406 rfl rfl (by decide +kernel) rfl rfl (Nat.le_of_ble_eq_true rfl) dX11_init_64 (q := b) rfl (fun H locs hz => ?_)
  replace hz : Zc E b (.inr (11, [.ref (b + 1), .ref (b + 2), .ref (b + 21), .ref (b + 40), .ref (b + 41), .ref (b + 46), .int 0]) :: .inl (E.2.2.2.1 4, 5, .inr (.inr (.inr (.inr (fun _ => none))))) :: ((((es_X8 E (b + 2) ++ es_X8 E (b + 21)) ++ es_X6 E (b + 40)) ++ es_X5 E (b + 41)) ++ es_X0 E (b + 46))) s H _ := hz
  refine lv_iconst (v := 0) hx hb dX11_init_67 (by decide) ?_
  refine lv_istore_n (lv' := [(1, .int (0 : Int32)), (0, .ref b)]) hx hb dX11_init_68 rfl hl (by decide) rfl (fun ls hl => ?_)
  refine lv_iload_n hx hb dX11_init_69 rfl (lv_at hl 0 rfl) ?_
  refine lv_iconst (v := 5) hx hb dX11_init_70 (by decide) ?_
  refine lv_icmp_ge (tgt := 93) hx hb dX11_init_71 (by decide) (fun q => absurd q (by decide)) (fun _ => ?_)
  refine lv_aload_n hx hb dX11_init_74 rfl (lv_at hl 1 rfl) ?_
  refine z_get C hz (c0 := 0) (Tf := TX11) (N := 7) (k := 0) rfl rfl inX11 (by decide) kw_401 rfl rfl dX11_init_75 (q := b) rfl ?_
  refine lv_iload_n hx hb dX11_init_78 rfl (lv_at hl 0 rfl) ?_
  refine z_new C hz (ci := 3) (N := 11) (fs := [.null, .null, .null, .null, .null, .null, .int 0, .int 0, .int 0, .int 0, .int 0]) rfl inX3 tyX3 tyX3_ok kw_105 kw_362 kw_87 bl_3 (Nat.le_of_ble_eq_true rfl) (Nat.le_of_ble_eq_true rfl) dX11_init_79 (q := (b + 48)) (by simp [len_X0, len_X3, len_X5, len_X6, len_X8]) (fun H hz => ?_)
  refine lv_dup hx hb dX11_init_82 rfl ?_
  refine z_initN C hl.1 (es := (.inr (11, [.ref (b + 1), .ref (b + 2), .ref (b + 21), .ref (b + 40), .ref (b + 41), .ref (b + 46), .int 0]) :: .inl (E.2.2.2.1 4, 5, .inr (.inr (.inr (.inr (fun _ => none))))) :: ((((es_X8 E (b + 2) ++ es_X8 E (b + 21)) ++ es_X6 E (b + 40)) ++ es_X5 E (b + 41)) ++ es_X0 E (b + 46)))) (blank := .inr (3, [.null, .null, .null, .null, .null, .null, .int 0, .int 0, .int 0, .int 0, .int 0])) (mc_X3 l E) yc_X3 hz (q := (b + 48)) (by simp [len_X0, len_X3, len_X5, len_X6, len_X8]) (List.mem_of_getElem? (i := 9) rfl) ⟨Nat.le_of_ble_eq_true rfl, Nat.le_of_ble_eq_true rfl⟩ (Nat.le_of_ble_eq_true rfl) ⟨Nat.le_of_ble_eq_true rfl, Nat.le_of_ble_eq_true rfl⟩ dX11_init_83 (fun H locs hz => ?_)
  replace hz : Zc E b (.inr (11, [.ref (b + 1), .ref (b + 2), .ref (b + 21), .ref (b + 40), .ref (b + 41), .ref (b + 46), .int 0]) :: .inl (E.2.2.2.1 4, 5, .inr (.inr (.inr (.inr (fun _ => none))))) :: (((((es_X8 E (b + 2) ++ es_X8 E (b + 21)) ++ es_X6 E (b + 40)) ++ es_X5 E (b + 41)) ++ es_X0 E (b + 46)) ++ es_X3 E (b + 48))) s H _ := hz
  refine z_aast C hz (c0 := 1) (c1 := 48) rfl (lst_at (by simp [len_X0, len_X3, len_X5, len_X6, len_X8])) (by unfold vp_in; decide) dX11_init_86 (q := (b + 1)) (v := (b + 48)) rfl rfl (fun H locs hz => ?_)
  replace hz : Zc E b (.inr (11, [.ref (b + 1), .ref (b + 2), .ref (b + 21), .ref (b + 40), .ref (b + 41), .ref (b + 46), .int 0]) :: .inl (E.2.2.2.1 4, 5, .inr (.inr (.inr (.inr (va_up (fun _ => none) (0 : Int32).toNatClampNeg (some (b + 48))))))) :: (((((es_X8 E (b + 2) ++ es_X8 E (b + 21)) ++ es_X6 E (b + 40)) ++ es_X5 E (b + 41)) ++ es_X0 E (b + 46)) ++ es_X3 E (b + 48))) s H _ := hz
  refine lv_iinc (v := 1) (lv' := [(1, .int (1 : Int32)), (0, .ref b)]) hx hb dX11_init_87 hl (k := 0) rfl (by decide) (by decide) rfl (fun ls hl => ?_)
  refine lv_goto (tgt := 69) hx hb dX11_init_90 (by decide) ?_
  refine lv_iload_n hx hb dX11_init_69 rfl (lv_at hl 0 rfl) ?_
  refine lv_iconst (v := 5) hx hb dX11_init_70 (by decide) ?_
  refine lv_icmp_ge (tgt := 93) hx hb dX11_init_71 (by decide) (fun q => absurd q (by decide)) (fun _ => ?_)
  refine lv_aload_n hx hb dX11_init_74 rfl (lv_at hl 1 rfl) ?_
  refine z_get C hz (c0 := 0) (Tf := TX11) (N := 7) (k := 0) rfl rfl inX11 (by decide) kw_401 rfl rfl dX11_init_75 (q := b) rfl ?_
  refine lv_iload_n hx hb dX11_init_78 rfl (lv_at hl 0 rfl) ?_
  refine z_new C hz (ci := 3) (N := 11) (fs := [.null, .null, .null, .null, .null, .null, .int 0, .int 0, .int 0, .int 0, .int 0]) rfl inX3 tyX3 tyX3_ok kw_105 kw_362 kw_87 bl_3 (Nat.le_of_ble_eq_true rfl) (Nat.le_of_ble_eq_true rfl) dX11_init_79 (q := (b + 55)) (by simp [len_X0, len_X3, len_X5, len_X6, len_X8]) (fun H hz => ?_)
  refine lv_dup hx hb dX11_init_82 rfl ?_
  refine z_initN C hl.1 (es := (.inr (11, [.ref (b + 1), .ref (b + 2), .ref (b + 21), .ref (b + 40), .ref (b + 41), .ref (b + 46), .int 0]) :: .inl (E.2.2.2.1 4, 5, .inr (.inr (.inr (.inr (va_up (fun _ => none) (0 : Int32).toNatClampNeg (some (b + 48))))))) :: (((((es_X8 E (b + 2) ++ es_X8 E (b + 21)) ++ es_X6 E (b + 40)) ++ es_X5 E (b + 41)) ++ es_X0 E (b + 46)) ++ es_X3 E (b + 48)))) (blank := .inr (3, [.null, .null, .null, .null, .null, .null, .int 0, .int 0, .int 0, .int 0, .int 0])) (mc_X3 l E) yc_X3 hz (q := (b + 55)) (by simp [len_X0, len_X3, len_X5, len_X6, len_X8]) (List.mem_of_getElem? (i := 9) rfl) ⟨Nat.le_of_ble_eq_true rfl, Nat.le_of_ble_eq_true rfl⟩ (Nat.le_of_ble_eq_true rfl) ⟨Nat.le_of_ble_eq_true rfl, Nat.le_of_ble_eq_true rfl⟩ dX11_init_83 (fun H locs hz => ?_)
  replace hz : Zc E b (.inr (11, [.ref (b + 1), .ref (b + 2), .ref (b + 21), .ref (b + 40), .ref (b + 41), .ref (b + 46), .int 0]) :: .inl (E.2.2.2.1 4, 5, .inr (.inr (.inr (.inr (va_up (fun _ => none) (0 : Int32).toNatClampNeg (some (b + 48))))))) :: ((((((es_X8 E (b + 2) ++ es_X8 E (b + 21)) ++ es_X6 E (b + 40)) ++ es_X5 E (b + 41)) ++ es_X0 E (b + 46)) ++ es_X3 E (b + 48)) ++ es_X3 E (b + 55))) s H _ := hz
  refine z_aast C hz (c0 := 1) (c1 := 55) rfl (lst_at (by simp [len_X0, len_X3, len_X5, len_X6, len_X8])) (by unfold vp_in; decide) dX11_init_86 (q := (b + 1)) (v := (b + 55)) rfl rfl (fun H locs hz => ?_)
  replace hz : Zc E b (.inr (11, [.ref (b + 1), .ref (b + 2), .ref (b + 21), .ref (b + 40), .ref (b + 41), .ref (b + 46), .int 0]) :: .inl (E.2.2.2.1 4, 5, .inr (.inr (.inr (.inr (va_up (va_up (fun _ => none) (0 : Int32).toNatClampNeg (some (b + 48))) (1 : Int32).toNatClampNeg (some (b + 55))))))) :: ((((((es_X8 E (b + 2) ++ es_X8 E (b + 21)) ++ es_X6 E (b + 40)) ++ es_X5 E (b + 41)) ++ es_X0 E (b + 46)) ++ es_X3 E (b + 48)) ++ es_X3 E (b + 55))) s H _ := hz
  refine lv_iinc (v := 2) (lv' := [(1, .int (2 : Int32)), (0, .ref b)]) hx hb dX11_init_87 hl (k := 0) rfl (by decide) (by decide) rfl (fun ls hl => ?_)
  refine lv_goto (tgt := 69) hx hb dX11_init_90 (by decide) ?_
  refine lv_iload_n hx hb dX11_init_69 rfl (lv_at hl 0 rfl) ?_
  refine lv_iconst (v := 5) hx hb dX11_init_70 (by decide) ?_
  refine lv_icmp_ge (tgt := 93) hx hb dX11_init_71 (by decide) (fun q => absurd q (by decide)) (fun _ => ?_)
  refine lv_aload_n hx hb dX11_init_74 rfl (lv_at hl 1 rfl) ?_
  refine z_get C hz (c0 := 0) (Tf := TX11) (N := 7) (k := 0) rfl rfl inX11 (by decide) kw_401 rfl rfl dX11_init_75 (q := b) rfl ?_
  refine lv_iload_n hx hb dX11_init_78 rfl (lv_at hl 0 rfl) ?_
  refine z_new C hz (ci := 3) (N := 11) (fs := [.null, .null, .null, .null, .null, .null, .int 0, .int 0, .int 0, .int 0, .int 0]) rfl inX3 tyX3 tyX3_ok kw_105 kw_362 kw_87 bl_3 (Nat.le_of_ble_eq_true rfl) (Nat.le_of_ble_eq_true rfl) dX11_init_79 (q := (b + 62)) (by simp [len_X0, len_X3, len_X5, len_X6, len_X8]) (fun H hz => ?_)
  refine lv_dup hx hb dX11_init_82 rfl ?_
  refine z_initN C hl.1 (es := (.inr (11, [.ref (b + 1), .ref (b + 2), .ref (b + 21), .ref (b + 40), .ref (b + 41), .ref (b + 46), .int 0]) :: .inl (E.2.2.2.1 4, 5, .inr (.inr (.inr (.inr (va_up (va_up (fun _ => none) (0 : Int32).toNatClampNeg (some (b + 48))) (1 : Int32).toNatClampNeg (some (b + 55))))))) :: ((((((es_X8 E (b + 2) ++ es_X8 E (b + 21)) ++ es_X6 E (b + 40)) ++ es_X5 E (b + 41)) ++ es_X0 E (b + 46)) ++ es_X3 E (b + 48)) ++ es_X3 E (b + 55)))) (blank := .inr (3, [.null, .null, .null, .null, .null, .null, .int 0, .int 0, .int 0, .int 0, .int 0])) (mc_X3 l E) yc_X3 hz (q := (b + 62)) (by simp [len_X0, len_X3, len_X5, len_X6, len_X8]) (List.mem_of_getElem? (i := 9) rfl) ⟨Nat.le_of_ble_eq_true rfl, Nat.le_of_ble_eq_true rfl⟩ (Nat.le_of_ble_eq_true rfl) ⟨Nat.le_of_ble_eq_true rfl, Nat.le_of_ble_eq_true rfl⟩ dX11_init_83 (fun H locs hz => ?_)
  replace hz : Zc E b (.inr (11, [.ref (b + 1), .ref (b + 2), .ref (b + 21), .ref (b + 40), .ref (b + 41), .ref (b + 46), .int 0]) :: .inl (E.2.2.2.1 4, 5, .inr (.inr (.inr (.inr (va_up (va_up (fun _ => none) (0 : Int32).toNatClampNeg (some (b + 48))) (1 : Int32).toNatClampNeg (some (b + 55))))))) :: (((((((es_X8 E (b + 2) ++ es_X8 E (b + 21)) ++ es_X6 E (b + 40)) ++ es_X5 E (b + 41)) ++ es_X0 E (b + 46)) ++ es_X3 E (b + 48)) ++ es_X3 E (b + 55)) ++ es_X3 E (b + 62))) s H _ := hz
  refine z_aast C hz (c0 := 1) (c1 := 62) rfl (lst_at (by simp [len_X0, len_X3, len_X5, len_X6, len_X8])) (by unfold vp_in; decide) dX11_init_86 (q := (b + 1)) (v := (b + 62)) rfl rfl (fun H locs hz => ?_)
  replace hz : Zc E b (.inr (11, [.ref (b + 1), .ref (b + 2), .ref (b + 21), .ref (b + 40), .ref (b + 41), .ref (b + 46), .int 0]) :: .inl (E.2.2.2.1 4, 5, .inr (.inr (.inr (.inr (va_up (va_up (va_up (fun _ => none) (0 : Int32).toNatClampNeg (some (b + 48))) (1 : Int32).toNatClampNeg (some (b + 55))) (2 : Int32).toNatClampNeg (some (b + 62))))))) :: (((((((es_X8 E (b + 2) ++ es_X8 E (b + 21)) ++ es_X6 E (b + 40)) ++ es_X5 E (b + 41)) ++ es_X0 E (b + 46)) ++ es_X3 E (b + 48)) ++ es_X3 E (b + 55)) ++ es_X3 E (b + 62))) s H _ := hz
  refine lv_iinc (v := 3) (lv' := [(1, .int (3 : Int32)), (0, .ref b)]) hx hb dX11_init_87 hl (k := 0) rfl (by decide) (by decide) rfl (fun ls hl => ?_)
  refine lv_goto (tgt := 69) hx hb dX11_init_90 (by decide) ?_
  refine lv_iload_n hx hb dX11_init_69 rfl (lv_at hl 0 rfl) ?_
  refine lv_iconst (v := 5) hx hb dX11_init_70 (by decide) ?_
  refine lv_icmp_ge (tgt := 93) hx hb dX11_init_71 (by decide) (fun q => absurd q (by decide)) (fun _ => ?_)
  refine lv_aload_n hx hb dX11_init_74 rfl (lv_at hl 1 rfl) ?_
  refine z_get C hz (c0 := 0) (Tf := TX11) (N := 7) (k := 0) rfl rfl inX11 (by decide) kw_401 rfl rfl dX11_init_75 (q := b) rfl ?_
  refine lv_iload_n hx hb dX11_init_78 rfl (lv_at hl 0 rfl) ?_
  refine z_new C hz (ci := 3) (N := 11) (fs := [.null, .null, .null, .null, .null, .null, .int 0, .int 0, .int 0, .int 0, .int 0]) rfl inX3 tyX3 tyX3_ok kw_105 kw_362 kw_87 bl_3 (Nat.le_of_ble_eq_true rfl) (Nat.le_of_ble_eq_true rfl) dX11_init_79 (q := (b + 69)) (by simp [len_X0, len_X3, len_X5, len_X6, len_X8]) (fun H hz => ?_)
  refine lv_dup hx hb dX11_init_82 rfl ?_
  refine z_initN C hl.1 (es := (.inr (11, [.ref (b + 1), .ref (b + 2), .ref (b + 21), .ref (b + 40), .ref (b + 41), .ref (b + 46), .int 0]) :: .inl (E.2.2.2.1 4, 5, .inr (.inr (.inr (.inr (va_up (va_up (va_up (fun _ => none) (0 : Int32).toNatClampNeg (some (b + 48))) (1 : Int32).toNatClampNeg (some (b + 55))) (2 : Int32).toNatClampNeg (some (b + 62))))))) :: (((((((es_X8 E (b + 2) ++ es_X8 E (b + 21)) ++ es_X6 E (b + 40)) ++ es_X5 E (b + 41)) ++ es_X0 E (b + 46)) ++ es_X3 E (b + 48)) ++ es_X3 E (b + 55)) ++ es_X3 E (b + 62)))) (blank := .inr (3, [.null, .null, .null, .null, .null, .null, .int 0, .int 0, .int 0, .int 0, .int 0])) (mc_X3 l E) yc_X3 hz (q := (b + 69)) (by simp [len_X0, len_X3, len_X5, len_X6, len_X8]) (List.mem_of_getElem? (i := 9) rfl) ⟨Nat.le_of_ble_eq_true rfl, Nat.le_of_ble_eq_true rfl⟩ (Nat.le_of_ble_eq_true rfl) ⟨Nat.le_of_ble_eq_true rfl, Nat.le_of_ble_eq_true rfl⟩ dX11_init_83 (fun H locs hz => ?_)
  replace hz : Zc E b (.inr (11, [.ref (b + 1), .ref (b + 2), .ref (b + 21), .ref (b + 40), .ref (b + 41), .ref (b + 46), .int 0]) :: .inl (E.2.2.2.1 4, 5, .inr (.inr (.inr (.inr (va_up (va_up (va_up (fun _ => none) (0 : Int32).toNatClampNeg (some (b + 48))) (1 : Int32).toNatClampNeg (some (b + 55))) (2 : Int32).toNatClampNeg (some (b + 62))))))) :: ((((((((es_X8 E (b + 2) ++ es_X8 E (b + 21)) ++ es_X6 E (b + 40)) ++ es_X5 E (b + 41)) ++ es_X0 E (b + 46)) ++ es_X3 E (b + 48)) ++ es_X3 E (b + 55)) ++ es_X3 E (b + 62)) ++ es_X3 E (b + 69))) s H _ := hz
  refine z_aast C hz (c0 := 1) (c1 := 69) rfl (lst_at (by simp [len_X0, len_X3, len_X5, len_X6, len_X8])) (by unfold vp_in; decide) dX11_init_86 (q := (b + 1)) (v := (b + 69)) rfl rfl (fun H locs hz => ?_)
  replace hz : Zc E b (.inr (11, [.ref (b + 1), .ref (b + 2), .ref (b + 21), .ref (b + 40), .ref (b + 41), .ref (b + 46), .int 0]) :: .inl (E.2.2.2.1 4, 5, .inr (.inr (.inr (.inr (va_up (va_up (va_up (va_up (fun _ => none) (0 : Int32).toNatClampNeg (some (b + 48))) (1 : Int32).toNatClampNeg (some (b + 55))) (2 : Int32).toNatClampNeg (some (b + 62))) (3 : Int32).toNatClampNeg (some (b + 69))))))) :: ((((((((es_X8 E (b + 2) ++ es_X8 E (b + 21)) ++ es_X6 E (b + 40)) ++ es_X5 E (b + 41)) ++ es_X0 E (b + 46)) ++ es_X3 E (b + 48)) ++ es_X3 E (b + 55)) ++ es_X3 E (b + 62)) ++ es_X3 E (b + 69))) s H _ := hz
  refine lv_iinc (v := 4) (lv' := [(1, .int (4 : Int32)), (0, .ref b)]) hx hb dX11_init_87 hl (k := 0) rfl (by decide) (by decide) rfl (fun ls hl => ?_)
  refine lv_goto (tgt := 69) hx hb dX11_init_90 (by decide) ?_
  refine lv_iload_n hx hb dX11_init_69 rfl (lv_at hl 0 rfl) ?_
  refine lv_iconst (v := 5) hx hb dX11_init_70 (by decide) ?_
  refine lv_icmp_ge (tgt := 93) hx hb dX11_init_71 (by decide) (fun q => absurd q (by decide)) (fun _ => ?_)
  refine lv_aload_n hx hb dX11_init_74 rfl (lv_at hl 1 rfl) ?_
  refine z_get C hz (c0 := 0) (Tf := TX11) (N := 7) (k := 0) rfl rfl inX11 (by decide) kw_401 rfl rfl dX11_init_75 (q := b) rfl ?_
  refine lv_iload_n hx hb dX11_init_78 rfl (lv_at hl 0 rfl) ?_
  refine z_new C hz (ci := 3) (N := 11) (fs := [.null, .null, .null, .null, .null, .null, .int 0, .int 0, .int 0, .int 0, .int 0]) rfl inX3 tyX3 tyX3_ok kw_105 kw_362 kw_87 bl_3 (Nat.le_of_ble_eq_true rfl) (Nat.le_of_ble_eq_true rfl) dX11_init_79 (q := (b + 76)) (by simp [len_X0, len_X3, len_X5, len_X6, len_X8]) (fun H hz => ?_)
  refine lv_dup hx hb dX11_init_82 rfl ?_
  refine z_initN C hl.1 (es := (.inr (11, [.ref (b + 1), .ref (b + 2), .ref (b + 21), .ref (b + 40), .ref (b + 41), .ref (b + 46), .int 0]) :: .inl (E.2.2.2.1 4, 5, .inr (.inr (.inr (.inr (va_up (va_up (va_up (va_up (fun _ => none) (0 : Int32).toNatClampNeg (some (b + 48))) (1 : Int32).toNatClampNeg (some (b + 55))) (2 : Int32).toNatClampNeg (some (b + 62))) (3 : Int32).toNatClampNeg (some (b + 69))))))) :: ((((((((es_X8 E (b + 2) ++ es_X8 E (b + 21)) ++ es_X6 E (b + 40)) ++ es_X5 E (b + 41)) ++ es_X0 E (b + 46)) ++ es_X3 E (b + 48)) ++ es_X3 E (b + 55)) ++ es_X3 E (b + 62)) ++ es_X3 E (b + 69)))) (blank := .inr (3, [.null, .null, .null, .null, .null, .null, .int 0, .int 0, .int 0, .int 0, .int 0])) (mc_X3 l E) yc_X3 hz (q := (b + 76)) (by simp [len_X0, len_X3, len_X5, len_X6, len_X8]) (List.mem_of_getElem? (i := 9) rfl) ⟨Nat.le_of_ble_eq_true rfl, Nat.le_of_ble_eq_true rfl⟩ (Nat.le_of_ble_eq_true rfl) ⟨Nat.le_of_ble_eq_true rfl, Nat.le_of_ble_eq_true rfl⟩ dX11_init_83 (fun H locs hz => ?_)
  replace hz : Zc E b (.inr (11, [.ref (b + 1), .ref (b + 2), .ref (b + 21), .ref (b + 40), .ref (b + 41), .ref (b + 46), .int 0]) :: .inl (E.2.2.2.1 4, 5, .inr (.inr (.inr (.inr (va_up (va_up (va_up (va_up (fun _ => none) (0 : Int32).toNatClampNeg (some (b + 48))) (1 : Int32).toNatClampNeg (some (b + 55))) (2 : Int32).toNatClampNeg (some (b + 62))) (3 : Int32).toNatClampNeg (some (b + 69))))))) :: (((((((((es_X8 E (b + 2) ++ es_X8 E (b + 21)) ++ es_X6 E (b + 40)) ++ es_X5 E (b + 41)) ++ es_X0 E (b + 46)) ++ es_X3 E (b + 48)) ++ es_X3 E (b + 55)) ++ es_X3 E (b + 62)) ++ es_X3 E (b + 69)) ++ es_X3 E (b + 76))) s H _ := hz
  refine z_aast C hz (c0 := 1) (c1 := 76) rfl (lst_at (by simp [len_X0, len_X3, len_X5, len_X6, len_X8])) (by unfold vp_in; decide) dX11_init_86 (q := (b + 1)) (v := (b + 76)) rfl rfl (fun H locs hz => ?_)
  replace hz : Zc E b (.inr (11, [.ref (b + 1), .ref (b + 2), .ref (b + 21), .ref (b + 40), .ref (b + 41), .ref (b + 46), .int 0]) :: .inl (E.2.2.2.1 4, 5, .inr (.inr (.inr (.inr (va_up (va_up (va_up (va_up (va_up (fun _ => none) (0 : Int32).toNatClampNeg (some (b + 48))) (1 : Int32).toNatClampNeg (some (b + 55))) (2 : Int32).toNatClampNeg (some (b + 62))) (3 : Int32).toNatClampNeg (some (b + 69))) (4 : Int32).toNatClampNeg (some (b + 76))))))) :: (((((((((es_X8 E (b + 2) ++ es_X8 E (b + 21)) ++ es_X6 E (b + 40)) ++ es_X5 E (b + 41)) ++ es_X0 E (b + 46)) ++ es_X3 E (b + 48)) ++ es_X3 E (b + 55)) ++ es_X3 E (b + 62)) ++ es_X3 E (b + 69)) ++ es_X3 E (b + 76))) s H _ := hz
  refine lv_iinc (v := 5) (lv' := [(1, .int (5 : Int32)), (0, .ref b)]) hx hb dX11_init_87 hl (k := 0) rfl (by decide) (by decide) rfl (fun ls hl => ?_)
  refine lv_goto (tgt := 69) hx hb dX11_init_90 (by decide) ?_
  refine lv_iload_n hx hb dX11_init_69 rfl (lv_at hl 0 rfl) ?_
  refine lv_iconst (v := 5) hx hb dX11_init_70 (by decide) ?_
  refine lv_icmp_ge (tgt := 93) hx hb dX11_init_71 (by decide) (fun _ => ?_) (fun q => absurd (by decide) q)
  exact z_ret C hz rfl dX11_init_93
def es_X12 (E : EV) (b : Nat) : List va_E := [.inr (12, [.int 0, .ref (b + 1), .ref (b + 2), .int 0, .int 0, .int 0, .int 0, .int 0, .int 0, .ref (b + 3), .ref (b + 4), .int 0, .int 0, .int 0, .int 0, .int 0, .ref (b + 5), .ref (b + 6), .ref (b + 7), .ref (b + 8), .ref (b + 9), .ref (b + 10), .ref (b + 11), .ref (b + 12), .ref (b + 13), .int 0, .int 0, .int 0, .int 0, .int 0, .int 0, .int 0, .int 0, .ref (b + 14), .ref (b + 15), .int 0, .int 0, .int 0, .int 0]), .inl (E.2.2.2.1 0, 1055, .inl (upd (upd (upd (upd (upd (upd (upd (fun _ => 0) (5 : Int32).toNatClampNeg (-1)) (851 : Int32).toNatClampNeg (1000)) (858 : Int32).toNatClampNeg (1000)) (865 : Int32).toNatClampNeg (1000)) (872 : Int32).toNatClampNeg (1000)) (879 : Int32).toNatClampNeg (1000)) (886 : Int32).toNatClampNeg (1000))), .inl (E.2.2.2.1 0, (1055, .inl (fun _ => 0))), .inl (E.2.2.2.1 0, (6, .inl (fun _ => 0))), .inl (E.2.2.2.1 3, (64, .inl (fun _ => 0))), .inl (E.2.2.2.1 0, (4800, .inl (fun _ => 0))), .inl (E.2.2.2.1 0, (4800, .inl (fun _ => 0))), .inl (E.2.2.2.1 0, (4800, .inl (fun _ => 0))), .inl (E.2.2.2.1 0, (4800, .inl (fun _ => 0))), .inl (E.2.2.2.1 3, (4800, .inl (fun _ => 0))), .inl (E.2.2.2.1 0, (4200, .inl (fun _ => 0))), .inl (E.2.2.2.1 0, (21600, .inl (fun _ => 0))), .inl (E.2.2.2.1 2, (4200, .inr (.inl (fun _ => 0)))), .inl (E.2.2.2.1 2, (21600, .inr (.inl (fun _ => 0)))), .inl (E.2.2.2.1 0, (72, .inl (fun _ => 0))), .inl (E.2.2.2.1 0, (20, .inl (fun _ => 0)))]
theorem len_X12 (E : EV) (b : Nat) : (es_X12 E b).length = 16 := rfl
theorem yc_X12 : yC yX12_init cX12_init 2 := ⟨⟨by decide +kernel, by decide +kernel, by decide +kernel⟩, kw_1017, kw_88, kw_1016, rfl⟩
set_option maxHeartbeats 4000000 in
set_option maxRecDepth 100000 in
theorem mc_X12 (l : Launch) (E : EV) : MC l E yX12_init cX12_init 2 1 20 15 77872 (.inr (12, [.int 0, .null, .null, .int 0, .int 0, .int 0, .int 0, .int 0, .int 0, .null, .null, .int 0, .int 0, .int 0, .int 0, .int 0, .null, .null, .null, .null, .null, .null, .null, .null, .null, .int 0, .int 0, .int 0, .int 0, .int 0, .int 0, .int 0, .int 0, .null, .null, .int 0, .int 0, .int 0, .int 0])) (es_X12 E) := by
  intro b
  refine mc_start RX12 (by decide +kernel) rfl rfl (Nat.le_of_ble_eq_true rfl) (fun p e s m args below meth c ls C hz hl => ?_)
  have hx := C.1
  have hb := C.2.1
  refine lv_aload_n hx hb dX12_init_0 rfl (lv_at hl 0 rfl) ?_
  refine z_obj C hl.1 kw_1018 kw_103 kw_objcode (Nat.le_of_ble_eq_true rfl) (Nat.le_of_ble_eq_true rfl) (Nat.le_of_ble_eq_true rfl) dX12_init_1 ?_
  refine lv_aload_n hx hb dX12_init_4 rfl (lv_at hl 0 rfl) ?_
  refine lv_sipush (v := 1055) hx hb dX12_init_5 (by decide) ?_
  refine z_newa C hz (atype := .int) (ty := .int) rfl kw_139 (t0 := 0) rfl (fun _ _ h => h) (N := 1055) (a0 := (1055, .inl (fun _ => 0))) rfl (by decide) (by decide +kernel) (Nat.le_of_ble_eq_true rfl) (Nat.le_of_ble_eq_true rfl) (Nat.le_of_ble_eq_true rfl) dX12_init_8 (q := (b + 1)) rfl (fun H hz => ?_)
  replace hz : Zc E b [.inr (12, [.int 0, .null, .null, .int 0, .int 0, .int 0, .int 0, .int 0, .int 0, .null, .null, .int 0, .int 0, .int 0, .int 0, .int 0, .null, .null, .null, .null, .null, .null, .null, .null, .null, .int 0, .int 0, .int 0, .int 0, .int 0, .int 0, .int 0, .int 0, .null, .null, .int 0, .int 0, .int 0, .int 0]), .inl (E.2.2.2.1 0, (1055, .inl (fun _ => 0)))] s H _ := hz
  refine z_put C hz (c0 := 0) (Tf := TX12) (N := 39) (k := 1) (ty := tyX12 1) rfl rfl inX12 tyX12 tyX12_ok nmX12 (by decide) kw_1019 rfl rfl (by decide +kernel) rfl rfl (Nat.le_of_ble_eq_true rfl) dX12_init_10 (q := b) rfl (fun H locs hz => ?_)
  replace hz : Zc E b [.inr (12, [.int 0, .ref (b + 1), .null, .int 0, .int 0, .int 0, .int 0, .int 0, .int 0, .null, .null, .int 0, .int 0, .int 0, .int 0, .int 0, .null, .null, .null, .null, .null, .null, .null, .null, .null, .int 0, .int 0, .int 0, .int 0, .int 0, .int 0, .int 0, .int 0, .null, .null, .int 0, .int 0, .int 0, .int 0]), .inl (E.2.2.2.1 0, (1055, .inl (fun _ => 0)))] s H _ := hz
  refine lv_aload_n hx hb dX12_init_13 rfl (lv_at hl 0 rfl) ?_
  refine lv_sipush (v := 1055) hx hb dX12_init_14 (by decide) ?_
  refine z_newa C hz (atype := .int) (ty := .int) rfl kw_139 (t0 := 0) rfl (fun _ _ h => h) (N := 1055) (a0 := (1055, .inl (fun _ => 0))) rfl (by decide) (by decide +kernel) (Nat.le_of_ble_eq_true rfl) (Nat.le_of_ble_eq_true rfl) (Nat.le_of_ble_eq_true rfl) dX12_init_17 (q := (b + 2)) rfl (fun H hz => ?_)
  replace hz : Zc E b [.inr (12, [.int 0, .ref (b + 1), .null, .int 0, .int 0, .int 0, .int 0, .int 0, .int 0, .null, .null, .int 0, .int 0, .int 0, .int 0, .int 0, .null, .null, .null, .null, .null, .null, .null, .null, .null, .int 0, .int 0, .int 0, .int 0, .int 0, .int 0, .int 0, .int 0, .null, .null, .int 0, .int 0, .int 0, .int 0]), .inl (E.2.2.2.1 0, (1055, .inl (fun _ => 0))), .inl (E.2.2.2.1 0, (1055, .inl (fun _ => 0)))] s H _ := hz
  refine z_put C hz (c0 := 0) (Tf := TX12) (N := 39) (k := 2) (ty := tyX12 2) rfl rfl inX12 tyX12 tyX12_ok nmX12 (by decide) kw_1020 rfl rfl (by decide +kernel) rfl rfl (Nat.le_of_ble_eq_true rfl) dX12_init_19 (q := b) rfl (fun H locs hz => ?_)
  replace hz : Zc E b [.inr (12, [.int 0, .ref (b + 1), .ref (b + 2), .int 0, .int 0, .int 0, .int 0, .int 0, .int 0, .null, .null, .int 0, .int 0, .int 0, .int 0, .int 0, .null, .null, .null, .null, .null, .null, .null, .null, .null, .int 0, .int 0, .int 0, .int 0, .int 0, .int 0, .int 0, .int 0, .null, .null, .int 0, .int 0, .int 0, .int 0]), .inl (E.2.2.2.1 0, (1055, .inl (fun _ => 0))), .inl (E.2.2.2.1 0, (1055, .inl (fun _ => 0)))] s H _ := hz
  refine lv_aload_n hx hb dX12_init_22 rfl (lv_at hl 0 rfl) ?_
  refine lv_bipush (v := 6) hx hb dX12_init_23 (by decide) ?_
  refine z_newa C hz (atype := .int) (ty := .int) rfl kw_139 (t0 := 0) rfl (fun _ _ h => h) (N := 6) (a0 := (6, .inl (fun _ => 0))) rfl (by decide) (by decide +kernel) (Nat.le_of_ble_eq_true rfl) (Nat.le_of_ble_eq_true rfl) (Nat.le_of_ble_eq_true rfl) dX12_init_25 (q := (b + 3)) rfl (fun H hz => ?_)
  replace hz : Zc E b [.inr (12, [.int 0, .ref (b + 1), .ref (b + 2), .int 0, .int 0, .int 0, .int 0, .int 0, .int 0, .null, .null, .int 0, .int 0, .int 0, .int 0, .int 0, .null, .null, .null, .null, .null, .null, .null, .null, .null, .int 0, .int 0, .int 0, .int 0, .int 0, .int 0, .int 0, .int 0, .null, .null, .int 0, .int 0, .int 0, .int 0]), .inl (E.2.2.2.1 0, (1055, .inl (fun _ => 0))), .inl (E.2.2.2.1 0, (1055, .inl (fun _ => 0))), .inl (E.2.2.2.1 0, (6, .inl (fun _ => 0)))] s H _ := hz
  refine z_put C hz (c0 := 0) (Tf := TX12) (N := 39) (k := 9) (ty := tyX12 9) rfl rfl inX12 tyX12 tyX12_ok nmX12 (by decide) kw_1027 rfl rfl (by decide +kernel) rfl rfl (Nat.le_of_ble_eq_true rfl) dX12_init_27 (q := b) rfl (fun H locs hz => ?_)
  replace hz : Zc E b [.inr (12, [.int 0, .ref (b + 1), .ref (b + 2), .int 0, .int 0, .int 0, .int 0, .int 0, .int 0, .ref (b + 3), .null, .int 0, .int 0, .int 0, .int 0, .int 0, .null, .null, .null, .null, .null, .null, .null, .null, .null, .int 0, .int 0, .int 0, .int 0, .int 0, .int 0, .int 0, .int 0, .null, .null, .int 0, .int 0, .int 0, .int 0]), .inl (E.2.2.2.1 0, (1055, .inl (fun _ => 0))), .inl (E.2.2.2.1 0, (1055, .inl (fun _ => 0))), .inl (E.2.2.2.1 0, (6, .inl (fun _ => 0)))] s H _ := hz
  refine lv_aload_n hx hb dX12_init_30 rfl (lv_at hl 0 rfl) ?_
  refine lv_bipush (v := 64) hx hb dX12_init_31 (by decide) ?_
  refine z_newa C hz (atype := .boolean) (ty := .boolean) rfl kw_1136 (t0 := 3) rfl (fun _ _ h => h) (N := 64) (a0 := (64, .inl (fun _ => 0))) rfl (by decide) (by decide +kernel) (Nat.le_of_ble_eq_true rfl) (Nat.le_of_ble_eq_true rfl) (Nat.le_of_ble_eq_true rfl) dX12_init_33 (q := (b + 4)) rfl (fun H hz => ?_)
  replace hz : Zc E b [.inr (12, [.int 0, .ref (b + 1), .ref (b + 2), .int 0, .int 0, .int 0, .int 0, .int 0, .int 0, .ref (b + 3), .null, .int 0, .int 0, .int 0, .int 0, .int 0, .null, .null, .null, .null, .null, .null, .null, .null, .null, .int 0, .int 0, .int 0, .int 0, .int 0, .int 0, .int 0, .int 0, .null, .null, .int 0, .int 0, .int 0, .int 0]), .inl (E.2.2.2.1 0, (1055, .inl (fun _ => 0))), .inl (E.2.2.2.1 0, (1055, .inl (fun _ => 0))), .inl (E.2.2.2.1 0, (6, .inl (fun _ => 0))), .inl (E.2.2.2.1 3, (64, .inl (fun _ => 0)))] s H _ := hz
  refine z_put C hz (c0 := 0) (Tf := TX12) (N := 39) (k := 10) (ty := tyX12 10) rfl rfl inX12 tyX12 tyX12_ok nmX12 (by decide) kw_1028 rfl rfl (by decide +kernel) rfl rfl (Nat.le_of_ble_eq_true rfl) dX12_init_35 (q := b) rfl (fun H locs hz => ?_)
  replace hz : Zc E b [.inr (12, [.int 0, .ref (b + 1), .ref (b + 2), .int 0, .int 0, .int 0, .int 0, .int 0, .int 0, .ref (b + 3), .ref (b + 4), .int 0, .int 0, .int 0, .int 0, .int 0, .null, .null, .null, .null, .null, .null, .null, .null, .null, .int 0, .int 0, .int 0, .int 0, .int 0, .int 0, .int 0, .int 0, .null, .null, .int 0, .int 0, .int 0, .int 0]), .inl (E.2.2.2.1 0, (1055, .inl (fun _ => 0))), .inl (E.2.2.2.1 0, (1055, .inl (fun _ => 0))), .inl (E.2.2.2.1 0, (6, .inl (fun _ => 0))), .inl (E.2.2.2.1 3, (64, .inl (fun _ => 0)))] s H _ := hz
  refine lv_aload_n hx hb dX12_init_38 rfl (lv_at hl 0 rfl) ?_
  refine lv_sipush (v := 4800) hx hb dX12_init_39 (by decide) ?_
  refine z_newa C hz (atype := .int) (ty := .int) rfl kw_139 (t0 := 0) rfl (fun _ _ h => h) (N := 4800) (a0 := (4800, .inl (fun _ => 0))) rfl (by decide) (by decide +kernel) (Nat.le_of_ble_eq_true rfl) (Nat.le_of_ble_eq_true rfl) (Nat.le_of_ble_eq_true rfl) dX12_init_42 (q := (b + 5)) rfl (fun H hz => ?_)
  replace hz : Zc E b [.inr (12, [.int 0, .ref (b + 1), .ref (b + 2), .int 0, .int 0, .int 0, .int 0, .int 0, .int 0, .ref (b + 3), .ref (b + 4), .int 0, .int 0, .int 0, .int 0, .int 0, .null, .null, .null, .null, .null, .null, .null, .null, .null, .int 0, .int 0, .int 0, .int 0, .int 0, .int 0, .int 0, .int 0, .null, .null, .int 0, .int 0, .int 0, .int 0]), .inl (E.2.2.2.1 0, (1055, .inl (fun _ => 0))), .inl (E.2.2.2.1 0, (1055, .inl (fun _ => 0))), .inl (E.2.2.2.1 0, (6, .inl (fun _ => 0))), .inl (E.2.2.2.1 3, (64, .inl (fun _ => 0))), .inl (E.2.2.2.1 0, (4800, .inl (fun _ => 0)))] s H _ := hz
  refine z_put C hz (c0 := 0) (Tf := TX12) (N := 39) (k := 16) (ty := tyX12 16) rfl rfl inX12 tyX12 tyX12_ok nmX12 (by decide) kw_1034 rfl rfl (by decide +kernel) rfl rfl (Nat.le_of_ble_eq_true rfl) dX12_init_44 (q := b) rfl (fun H locs hz => ?_)
  replace hz : Zc E b [.inr (12, [.int 0, .ref (b + 1), .ref (b + 2), .int 0, .int 0, .int 0, .int 0, .int 0, .int 0, .ref (b + 3), .ref (b + 4), .int 0, .int 0, .int 0, .int 0, .int 0, .ref (b + 5), .null, .null, .null, .null, .null, .null, .null, .null, .int 0, .int 0, .int 0, .int 0, .int 0, .int 0, .int 0, .int 0, .null, .null, .int 0, .int 0, .int 0, .int 0]), .inl (E.2.2.2.1 0, (1055, .inl (fun _ => 0))), .inl (E.2.2.2.1 0, (1055, .inl (fun _ => 0))), .inl (E.2.2.2.1 0, (6, .inl (fun _ => 0))), .inl (E.2.2.2.1 3, (64, .inl (fun _ => 0))), .inl (E.2.2.2.1 0, (4800, .inl (fun _ => 0)))] s H _ := hz
  refine lv_aload_n hx hb dX12_init_47 rfl (lv_at hl 0 rfl) ?_
  refine lv_sipush (v := 4800) hx hb dX12_init_48 (by decide) ?_
  refine z_newa C hz (atype := .int) (ty := .int) rfl kw_139 (t0 := 0) rfl (fun _ _ h => h) (N := 4800) (a0 := (4800, .inl (fun _ => 0))) rfl (by decide) (by decide +kernel) (Nat.le_of_ble_eq_true rfl) (Nat.le_of_ble_eq_true rfl) (Nat.le_of_ble_eq_true rfl) dX12_init_51 (q := (b + 6)) rfl (fun H hz => ?_)
  replace hz : Zc E b [.inr (12, [.int 0, .ref (b + 1), .ref (b + 2), .int 0, .int 0, .int 0, .int 0, .int 0, .int 0, .ref (b + 3), .ref (b + 4), .int 0, .int 0, .int 0, .int 0, .int 0, .ref (b + 5), .null, .null, .null, .null, .null, .null, .null, .null, .int 0, .int 0, .int 0, .int 0, .int 0, .int 0, .int 0, .int 0, .null, .null, .int 0, .int 0, .int 0, .int 0]), .inl (E.2.2.2.1 0, (1055, .inl (fun _ => 0))), .inl (E.2.2.2.1 0, (1055, .inl (fun _ => 0))), .inl (E.2.2.2.1 0, (6, .inl (fun _ => 0))), .inl (E.2.2.2.1 3, (64, .inl (fun _ => 0))), .inl (E.2.2.2.1 0, (4800, .inl (fun _ => 0))), .inl (E.2.2.2.1 0, (4800, .inl (fun _ => 0)))] s H _ := hz
  refine z_put C hz (c0 := 0) (Tf := TX12) (N := 39) (k := 17) (ty := tyX12 17) rfl rfl inX12 tyX12 tyX12_ok nmX12 (by decide) kw_1035 rfl rfl (by decide +kernel) rfl rfl (Nat.le_of_ble_eq_true rfl) dX12_init_53 (q := b) rfl (fun H locs hz => ?_)
  replace hz : Zc E b [.inr (12, [.int 0, .ref (b + 1), .ref (b + 2), .int 0, .int 0, .int 0, .int 0, .int 0, .int 0, .ref (b + 3), .ref (b + 4), .int 0, .int 0, .int 0, .int 0, .int 0, .ref (b + 5), .ref (b + 6), .null, .null, .null, .null, .null, .null, .null, .int 0, .int 0, .int 0, .int 0, .int 0, .int 0, .int 0, .int 0, .null, .null, .int 0, .int 0, .int 0, .int 0]), .inl (E.2.2.2.1 0, (1055, .inl (fun _ => 0))), .inl (E.2.2.2.1 0, (1055, .inl (fun _ => 0))), .inl (E.2.2.2.1 0, (6, .inl (fun _ => 0))), .inl (E.2.2.2.1 3, (64, .inl (fun _ => 0))), .inl (E.2.2.2.1 0, (4800, .inl (fun _ => 0))), .inl (E.2.2.2.1 0, (4800, .inl (fun _ => 0)))] s H _ := hz
  refine lv_aload_n hx hb dX12_init_56 rfl (lv_at hl 0 rfl) ?_
  refine lv_sipush (v := 4800) hx hb dX12_init_57 (by decide) ?_
  refine z_newa C hz (atype := .int) (ty := .int) rfl kw_139 (t0 := 0) rfl (fun _ _ h => h) (N := 4800) (a0 := (4800, .inl (fun _ => 0))) rfl (by decide) (by decide +kernel) (Nat.le_of_ble_eq_true rfl) (Nat.le_of_ble_eq_true rfl) (Nat.le_of_ble_eq_true rfl) dX12_init_60 (q := (b + 7)) rfl (fun H hz => ?_)
  replace hz : Zc E b [.inr (12, [.int 0, .ref (b + 1), .ref (b + 2), .int 0, .int 0, .int 0, .int 0, .int 0, .int 0, .ref (b + 3), .ref (b + 4), .int 0, .int 0, .int 0, .int 0, .int 0, .ref (b + 5), .ref (b + 6), .null, .null, .null, .null, .null, .null, .null, .int 0, .int 0, .int 0, .int 0, .int 0, .int 0, .int 0, .int 0, .null, .null, .int 0, .int 0, .int 0, .int 0]), .inl (E.2.2.2.1 0, (1055, .inl (fun _ => 0))), .inl (E.2.2.2.1 0, (1055, .inl (fun _ => 0))), .inl (E.2.2.2.1 0, (6, .inl (fun _ => 0))), .inl (E.2.2.2.1 3, (64, .inl (fun _ => 0))), .inl (E.2.2.2.1 0, (4800, .inl (fun _ => 0))), .inl (E.2.2.2.1 0, (4800, .inl (fun _ => 0))), .inl (E.2.2.2.1 0, (4800, .inl (fun _ => 0)))] s H _ := hz
  refine z_put C hz (c0 := 0) (Tf := TX12) (N := 39) (k := 18) (ty := tyX12 18) rfl rfl inX12 tyX12 tyX12_ok nmX12 (by decide) kw_1036 rfl rfl (by decide +kernel) rfl rfl (Nat.le_of_ble_eq_true rfl) dX12_init_62 (q := b) rfl (fun H locs hz => ?_)
  replace hz : Zc E b [.inr (12, [.int 0, .ref (b + 1), .ref (b + 2), .int 0, .int 0, .int 0, .int 0, .int 0, .int 0, .ref (b + 3), .ref (b + 4), .int 0, .int 0, .int 0, .int 0, .int 0, .ref (b + 5), .ref (b + 6), .ref (b + 7), .null, .null, .null, .null, .null, .null, .int 0, .int 0, .int 0, .int 0, .int 0, .int 0, .int 0, .int 0, .null, .null, .int 0, .int 0, .int 0, .int 0]), .inl (E.2.2.2.1 0, (1055, .inl (fun _ => 0))), .inl (E.2.2.2.1 0, (1055, .inl (fun _ => 0))), .inl (E.2.2.2.1 0, (6, .inl (fun _ => 0))), .inl (E.2.2.2.1 3, (64, .inl (fun _ => 0))), .inl (E.2.2.2.1 0, (4800, .inl (fun _ => 0))), .inl (E.2.2.2.1 0, (4800, .inl (fun _ => 0))), .inl (E.2.2.2.1 0, (4800, .inl (fun _ => 0)))] s H _ := hz
  refine lv_aload_n hx hb dX12_init_65 rfl (lv_at hl 0 rfl) ?_
  refine lv_sipush (v := 4800) hx hb dX12_init_66 (by decide) ?_
  refine z_newa C hz (atype := .int) (ty := .int) rfl kw_139 (t0 := 0) rfl (fun _ _ h => h) (N := 4800) (a0 := (4800, .inl (fun _ => 0))) rfl (by decide) (by decide +kernel) (Nat.le_of_ble_eq_true rfl) (Nat.le_of_ble_eq_true rfl) (Nat.le_of_ble_eq_true rfl) dX12_init_69 (q := (b + 8)) rfl (fun H hz => ?_)
  replace hz : Zc E b [.inr (12, [.int 0, .ref (b + 1), .ref (b + 2), .int 0, .int 0, .int 0, .int 0, .int 0, .int 0, .ref (b + 3), .ref (b + 4), .int 0, .int 0, .int 0, .int 0, .int 0, .ref (b + 5), .ref (b + 6), .ref (b + 7), .null, .null, .null, .null, .null, .null, .int 0, .int 0, .int 0, .int 0, .int 0, .int 0, .int 0, .int 0, .null, .null, .int 0, .int 0, .int 0, .int 0]), .inl (E.2.2.2.1 0, (1055, .inl (fun _ => 0))), .inl (E.2.2.2.1 0, (1055, .inl (fun _ => 0))), .inl (E.2.2.2.1 0, (6, .inl (fun _ => 0))), .inl (E.2.2.2.1 3, (64, .inl (fun _ => 0))), .inl (E.2.2.2.1 0, (4800, .inl (fun _ => 0))), .inl (E.2.2.2.1 0, (4800, .inl (fun _ => 0))), .inl (E.2.2.2.1 0, (4800, .inl (fun _ => 0))), .inl (E.2.2.2.1 0, (4800, .inl (fun _ => 0)))] s H _ := hz
  refine z_put C hz (c0 := 0) (Tf := TX12) (N := 39) (k := 19) (ty := tyX12 19) rfl rfl inX12 tyX12 tyX12_ok nmX12 (by decide) kw_1037 rfl rfl (by decide +kernel) rfl rfl (Nat.le_of_ble_eq_true rfl) dX12_init_71 (q := b) rfl (fun H locs hz => ?_)
  replace hz : Zc E b [.inr (12, [.int 0, .ref (b + 1), .ref (b + 2), .int 0, .int 0, .int 0, .int 0, .int 0, .int 0, .ref (b + 3), .ref (b + 4), .int 0, .int 0, .int 0, .int 0, .int 0, .ref (b + 5), .ref (b + 6), .ref (b + 7), .ref (b + 8), .null, .null, .null, .null, .null, .int 0, .int 0, .int 0, .int 0, .int 0, .int 0, .int 0, .int 0, .null, .null, .int 0, .int 0, .int 0, .int 0]), .inl (E.2.2.2.1 0, (1055, .inl (fun _ => 0))), .inl (E.2.2.2.1 0, (1055, .inl (fun _ => 0))), .inl (E.2.2.2.1 0, (6, .inl (fun _ => 0))), .inl (E.2.2.2.1 3, (64, .inl (fun _ => 0))), .inl (E.2.2.2.1 0, (4800, .inl (fun _ => 0))), .inl (E.2.2.2.1 0, (4800, .inl (fun _ => 0))), .inl (E.2.2.2.1 0, (4800, .inl (fun _ => 0))), .inl (E.2.2.2.1 0, (4800, .inl (fun _ => 0)))] s H _ := hz
  refine lv_aload_n hx hb dX12_init_74 rfl (lv_at hl 0 rfl) ?_
  refine lv_sipush (v := 4800) hx hb dX12_init_75 (by decide) ?_
  refine z_newa C hz (atype := .boolean) (ty := .boolean) rfl kw_1136 (t0 := 3) rfl (fun _ _ h => h) (N := 4800) (a0 := (4800, .inl (fun _ => 0))) rfl (by decide) (by decide +kernel) (Nat.le_of_ble_eq_true rfl) (Nat.le_of_ble_eq_true rfl) (Nat.le_of_ble_eq_true rfl) dX12_init_78 (q := (b + 9)) rfl (fun H hz => ?_)
  replace hz : Zc E b [.inr (12, [.int 0, .ref (b + 1), .ref (b + 2), .int 0, .int 0, .int 0, .int 0, .int 0, .int 0, .ref (b + 3), .ref (b + 4), .int 0, .int 0, .int 0, .int 0, .int 0, .ref (b + 5), .ref (b + 6), .ref (b + 7), .ref (b + 8), .null, .null, .null, .null, .null, .int 0, .int 0, .int 0, .int 0, .int 0, .int 0, .int 0, .int 0, .null, .null, .int 0, .int 0, .int 0, .int 0]), .inl (E.2.2.2.1 0, (1055, .inl (fun _ => 0))), .inl (E.2.2.2.1 0, (1055, .inl (fun _ => 0))), .inl (E.2.2.2.1 0, (6, .inl (fun _ => 0))), .inl (E.2.2.2.1 3, (64, .inl (fun _ => 0))), .inl (E.2.2.2.1 0, (4800, .inl (fun _ => 0))), .inl (E.2.2.2.1 0, (4800, .inl (fun _ => 0))), .inl (E.2.2.2.1 0, (4800, .inl (fun _ => 0))), .inl (E.2.2.2.1 0, (4800, .inl (fun _ => 0))), .inl (E.2.2.2.1 3, (4800, .inl (fun _ => 0)))] s H _ := hz
  refine z_put C hz (c0 := 0) (Tf := TX12) (N := 39) (k := 20) (ty := tyX12 20) rfl rfl inX12 tyX12 tyX12_ok nmX12 (by decide) kw_1038 rfl rfl (by decide +kernel) rfl rfl (Nat.le_of_ble_eq_true rfl) dX12_init_80 (q := b) rfl (fun H locs hz => ?_)
  replace hz : Zc E b [.inr (12, [.int 0, .ref (b + 1), .ref (b + 2), .int 0, .int 0, .int 0, .int 0, .int 0, .int 0, .ref (b + 3), .ref (b + 4), .int 0, .int 0, .int 0, .int 0, .int 0, .ref (b + 5), .ref (b + 6), .ref (b + 7), .ref (b + 8), .ref (b + 9), .null, .null, .null, .null, .int 0, .int 0, .int 0, .int 0, .int 0, .int 0, .int 0, .int 0, .null, .null, .int 0, .int 0, .int 0, .int 0]), .inl (E.2.2.2.1 0, (1055, .inl (fun _ => 0))), .inl (E.2.2.2.1 0, (1055, .inl (fun _ => 0))), .inl (E.2.2.2.1 0, (6, .inl (fun _ => 0))), .inl (E.2.2.2.1 3, (64, .inl (fun _ => 0))), .inl (E.2.2.2.1 0, (4800, .inl (fun _ => 0))), .inl (E.2.2.2.1 0, (4800, .inl (fun _ => 0))), .inl (E.2.2.2.1 0, (4800, .inl (fun _ => 0))), .inl (E.2.2.2.1 0, (4800, .inl (fun _ => 0))), .inl (E.2.2.2.1 3, (4800, .inl (fun _ => 0)))] s H _ := hz
  refine lv_aload_n hx hb dX12_init_83 rfl (lv_at hl 0 rfl) ?_
  refine lv_sipush (v := 4200) hx hb dX12_init_84 (by decide) ?_
  refine z_newa C hz (atype := .int) (ty := .int) rfl kw_139 (t0 := 0) rfl (fun _ _ h => h) (N := 4200) (a0 := (4200, .inl (fun _ => 0))) rfl (by decide) (by decide +kernel) (Nat.le_of_ble_eq_true rfl) (Nat.le_of_ble_eq_true rfl) (Nat.le_of_ble_eq_true rfl) dX12_init_87 (q := (b + 10)) rfl (fun H hz => ?_)
  replace hz : Zc E b [.inr (12, [.int 0, .ref (b + 1), .ref (b + 2), .int 0, .int 0, .int 0, .int 0, .int 0, .int 0, .ref (b + 3), .ref (b + 4), .int 0, .int 0, .int 0, .int 0, .int 0, .ref (b + 5), .ref (b + 6), .ref (b + 7), .ref (b + 8), .ref (b + 9), .null, .null, .null, .null, .int 0, .int 0, .int 0, .int 0, .int 0, .int 0, .int 0, .int 0, .null, .null, .int 0, .int 0, .int 0, .int 0]), .inl (E.2.2.2.1 0, (1055, .inl (fun _ => 0))), .inl (E.2.2.2.1 0, (1055, .inl (fun _ => 0))), .inl (E.2.2.2.1 0, (6, .inl (fun _ => 0))), .inl (E.2.2.2.1 3, (64, .inl (fun _ => 0))), .inl (E.2.2.2.1 0, (4800, .inl (fun _ => 0))), .inl (E.2.2.2.1 0, (4800, .inl (fun _ => 0))), .inl (E.2.2.2.1 0, (4800, .inl (fun _ => 0))), .inl (E.2.2.2.1 0, (4800, .inl (fun _ => 0))), .inl (E.2.2.2.1 3, (4800, .inl (fun _ => 0))), .inl (E.2.2.2.1 0, (4200, .inl (fun _ => 0)))] s H _ := hz
  refine z_put C hz (c0 := 0) (Tf := TX12) (N := 39) (k := 21) (ty := tyX12 21) rfl rfl inX12 tyX12 tyX12_ok nmX12 (by decide) kw_1039 rfl rfl (by decide +kernel) rfl rfl (Nat.le_of_ble_eq_true rfl) dX12_init_89 (q := b) rfl (fun H locs hz => ?_)
  replace hz : Zc E b [.inr (12, [.int 0, .ref (b + 1), .ref (b + 2), .int 0, .int 0, .int 0, .int 0, .int 0, .int 0, .ref (b + 3), .ref (b + 4), .int 0, .int 0, .int 0, .int 0, .int 0, .ref (b + 5), .ref (b + 6), .ref (b + 7), .ref (b + 8), .ref (b + 9), .ref (b + 10), .null, .null, .null, .int 0, .int 0, .int 0, .int 0, .int 0, .int 0, .int 0, .int 0, .null, .null, .int 0, .int 0, .int 0, .int 0]), .inl (E.2.2.2.1 0, (1055, .inl (fun _ => 0))), .inl (E.2.2.2.1 0, (1055, .inl (fun _ => 0))), .inl (E.2.2.2.1 0, (6, .inl (fun _ => 0))), .inl (E.2.2.2.1 3, (64, .inl (fun _ => 0))), .inl (E.2.2.2.1 0, (4800, .inl (fun _ => 0))), .inl (E.2.2.2.1 0, (4800, .inl (fun _ => 0))), .inl (E.2.2.2.1 0, (4800, .inl (fun _ => 0))), .inl (E.2.2.2.1 0, (4800, .inl (fun _ => 0))), .inl (E.2.2.2.1 3, (4800, .inl (fun _ => 0))), .inl (E.2.2.2.1 0, (4200, .inl (fun _ => 0)))] s H _ := hz
  refine lv_aload_n hx hb dX12_init_92 rfl (lv_at hl 0 rfl) ?_
  refine lv_sipush (v := 21600) hx hb dX12_init_93 (by decide) ?_
  refine z_newa C hz (atype := .int) (ty := .int) rfl kw_139 (t0 := 0) rfl (fun _ _ h => h) (N := 21600) (a0 := (21600, .inl (fun _ => 0))) rfl (by decide) (by decide +kernel) (Nat.le_of_ble_eq_true rfl) (Nat.le_of_ble_eq_true rfl) (Nat.le_of_ble_eq_true rfl) dX12_init_96 (q := (b + 11)) rfl (fun H hz => ?_)
  replace hz : Zc E b [.inr (12, [.int 0, .ref (b + 1), .ref (b + 2), .int 0, .int 0, .int 0, .int 0, .int 0, .int 0, .ref (b + 3), .ref (b + 4), .int 0, .int 0, .int 0, .int 0, .int 0, .ref (b + 5), .ref (b + 6), .ref (b + 7), .ref (b + 8), .ref (b + 9), .ref (b + 10), .null, .null, .null, .int 0, .int 0, .int 0, .int 0, .int 0, .int 0, .int 0, .int 0, .null, .null, .int 0, .int 0, .int 0, .int 0]), .inl (E.2.2.2.1 0, (1055, .inl (fun _ => 0))), .inl (E.2.2.2.1 0, (1055, .inl (fun _ => 0))), .inl (E.2.2.2.1 0, (6, .inl (fun _ => 0))), .inl (E.2.2.2.1 3, (64, .inl (fun _ => 0))), .inl (E.2.2.2.1 0, (4800, .inl (fun _ => 0))), .inl (E.2.2.2.1 0, (4800, .inl (fun _ => 0))), .inl (E.2.2.2.1 0, (4800, .inl (fun _ => 0))), .inl (E.2.2.2.1 0, (4800, .inl (fun _ => 0))), .inl (E.2.2.2.1 3, (4800, .inl (fun _ => 0))), .inl (E.2.2.2.1 0, (4200, .inl (fun _ => 0))), .inl (E.2.2.2.1 0, (21600, .inl (fun _ => 0)))] s H _ := hz
  refine z_put C hz (c0 := 0) (Tf := TX12) (N := 39) (k := 22) (ty := tyX12 22) rfl rfl inX12 tyX12 tyX12_ok nmX12 (by decide) kw_1040 rfl rfl (by decide +kernel) rfl rfl (Nat.le_of_ble_eq_true rfl) dX12_init_98 (q := b) rfl (fun H locs hz => ?_)
  replace hz : Zc E b [.inr (12, [.int 0, .ref (b + 1), .ref (b + 2), .int 0, .int 0, .int 0, .int 0, .int 0, .int 0, .ref (b + 3), .ref (b + 4), .int 0, .int 0, .int 0, .int 0, .int 0, .ref (b + 5), .ref (b + 6), .ref (b + 7), .ref (b + 8), .ref (b + 9), .ref (b + 10), .ref (b + 11), .null, .null, .int 0, .int 0, .int 0, .int 0, .int 0, .int 0, .int 0, .int 0, .null, .null, .int 0, .int 0, .int 0, .int 0]), .inl (E.2.2.2.1 0, (1055, .inl (fun _ => 0))), .inl (E.2.2.2.1 0, (1055, .inl (fun _ => 0))), .inl (E.2.2.2.1 0, (6, .inl (fun _ => 0))), .inl (E.2.2.2.1 3, (64, .inl (fun _ => 0))), .inl (E.2.2.2.1 0, (4800, .inl (fun _ => 0))), .inl (E.2.2.2.1 0, (4800, .inl (fun _ => 0))), .inl (E.2.2.2.1 0, (4800, .inl (fun _ => 0))), .inl (E.2.2.2.1 0, (4800, .inl (fun _ => 0))), .inl (E.2.2.2.1 3, (4800, .inl (fun _ => 0))), .inl (E.2.2.2.1 0, (4200, .inl (fun _ => 0))), .inl (E.2.2.2.1 0, (21600, .inl (fun _ => 0)))] s H _ := hz
  refine lv_aload_n hx hb dX12_init_101 rfl (lv_at hl 0 rfl) ?_
  refine lv_sipush (v := 4200) hx hb dX12_init_102 (by decide) ?_
  refine z_newa C hz (atype := .long) (ty := .long) rfl kw_1137 (t0 := 2) rfl (fun _ _ h => h) (N := 4200) (a0 := (4200, .inr (.inl (fun _ => 0)))) rfl (by decide) (by decide +kernel) (Nat.le_of_ble_eq_true rfl) (Nat.le_of_ble_eq_true rfl) (Nat.le_of_ble_eq_true rfl) dX12_init_105 (q := (b + 12)) rfl (fun H hz => ?_)
  replace hz : Zc E b [.inr (12, [.int 0, .ref (b + 1), .ref (b + 2), .int 0, .int 0, .int 0, .int 0, .int 0, .int 0, .ref (b + 3), .ref (b + 4), .int 0, .int 0, .int 0, .int 0, .int 0, .ref (b + 5), .ref (b + 6), .ref (b + 7), .ref (b + 8), .ref (b + 9), .ref (b + 10), .ref (b + 11), .null, .null, .int 0, .int 0, .int 0, .int 0, .int 0, .int 0, .int 0, .int 0, .null, .null, .int 0, .int 0, .int 0, .int 0]), .inl (E.2.2.2.1 0, (1055, .inl (fun _ => 0))), .inl (E.2.2.2.1 0, (1055, .inl (fun _ => 0))), .inl (E.2.2.2.1 0, (6, .inl (fun _ => 0))), .inl (E.2.2.2.1 3, (64, .inl (fun _ => 0))), .inl (E.2.2.2.1 0, (4800, .inl (fun _ => 0))), .inl (E.2.2.2.1 0, (4800, .inl (fun _ => 0))), .inl (E.2.2.2.1 0, (4800, .inl (fun _ => 0))), .inl (E.2.2.2.1 0, (4800, .inl (fun _ => 0))), .inl (E.2.2.2.1 3, (4800, .inl (fun _ => 0))), .inl (E.2.2.2.1 0, (4200, .inl (fun _ => 0))), .inl (E.2.2.2.1 0, (21600, .inl (fun _ => 0))), .inl (E.2.2.2.1 2, (4200, .inr (.inl (fun _ => 0))))] s H _ := hz
  refine z_put C hz (c0 := 0) (Tf := TX12) (N := 39) (k := 23) (ty := tyX12 23) rfl rfl inX12 tyX12 tyX12_ok nmX12 (by decide) kw_1041 rfl rfl (by decide +kernel) rfl rfl (Nat.le_of_ble_eq_true rfl) dX12_init_107 (q := b) rfl (fun H locs hz => ?_)
  replace hz : Zc E b [.inr (12, [.int 0, .ref (b + 1), .ref (b + 2), .int 0, .int 0, .int 0, .int 0, .int 0, .int 0, .ref (b + 3), .ref (b + 4), .int 0, .int 0, .int 0, .int 0, .int 0, .ref (b + 5), .ref (b + 6), .ref (b + 7), .ref (b + 8), .ref (b + 9), .ref (b + 10), .ref (b + 11), .ref (b + 12), .null, .int 0, .int 0, .int 0, .int 0, .int 0, .int 0, .int 0, .int 0, .null, .null, .int 0, .int 0, .int 0, .int 0]), .inl (E.2.2.2.1 0, (1055, .inl (fun _ => 0))), .inl (E.2.2.2.1 0, (1055, .inl (fun _ => 0))), .inl (E.2.2.2.1 0, (6, .inl (fun _ => 0))), .inl (E.2.2.2.1 3, (64, .inl (fun _ => 0))), .inl (E.2.2.2.1 0, (4800, .inl (fun _ => 0))), .inl (E.2.2.2.1 0, (4800, .inl (fun _ => 0))), .inl (E.2.2.2.1 0, (4800, .inl (fun _ => 0))), .inl (E.2.2.2.1 0, (4800, .inl (fun _ => 0))), .inl (E.2.2.2.1 3, (4800, .inl (fun _ => 0))), .inl (E.2.2.2.1 0, (4200, .inl (fun _ => 0))), .inl (E.2.2.2.1 0, (21600, .inl (fun _ => 0))), .inl (E.2.2.2.1 2, (4200, .inr (.inl (fun _ => 0))))] s H _ := hz
  refine lv_aload_n hx hb dX12_init_110 rfl (lv_at hl 0 rfl) ?_
  refine lv_sipush (v := 21600) hx hb dX12_init_111 (by decide) ?_
  refine z_newa C hz (atype := .long) (ty := .long) rfl kw_1137 (t0 := 2) rfl (fun _ _ h => h) (N := 21600) (a0 := (21600, .inr (.inl (fun _ => 0)))) rfl (by decide) (by decide +kernel) (Nat.le_of_ble_eq_true rfl) (Nat.le_of_ble_eq_true rfl) (Nat.le_of_ble_eq_true rfl) dX12_init_114 (q := (b + 13)) rfl (fun H hz => ?_)
  replace hz : Zc E b [.inr (12, [.int 0, .ref (b + 1), .ref (b + 2), .int 0, .int 0, .int 0, .int 0, .int 0, .int 0, .ref (b + 3), .ref (b + 4), .int 0, .int 0, .int 0, .int 0, .int 0, .ref (b + 5), .ref (b + 6), .ref (b + 7), .ref (b + 8), .ref (b + 9), .ref (b + 10), .ref (b + 11), .ref (b + 12), .null, .int 0, .int 0, .int 0, .int 0, .int 0, .int 0, .int 0, .int 0, .null, .null, .int 0, .int 0, .int 0, .int 0]), .inl (E.2.2.2.1 0, (1055, .inl (fun _ => 0))), .inl (E.2.2.2.1 0, (1055, .inl (fun _ => 0))), .inl (E.2.2.2.1 0, (6, .inl (fun _ => 0))), .inl (E.2.2.2.1 3, (64, .inl (fun _ => 0))), .inl (E.2.2.2.1 0, (4800, .inl (fun _ => 0))), .inl (E.2.2.2.1 0, (4800, .inl (fun _ => 0))), .inl (E.2.2.2.1 0, (4800, .inl (fun _ => 0))), .inl (E.2.2.2.1 0, (4800, .inl (fun _ => 0))), .inl (E.2.2.2.1 3, (4800, .inl (fun _ => 0))), .inl (E.2.2.2.1 0, (4200, .inl (fun _ => 0))), .inl (E.2.2.2.1 0, (21600, .inl (fun _ => 0))), .inl (E.2.2.2.1 2, (4200, .inr (.inl (fun _ => 0)))), .inl (E.2.2.2.1 2, (21600, .inr (.inl (fun _ => 0))))] s H _ := hz
  refine z_put C hz (c0 := 0) (Tf := TX12) (N := 39) (k := 24) (ty := tyX12 24) rfl rfl inX12 tyX12 tyX12_ok nmX12 (by decide) kw_1042 rfl rfl (by decide +kernel) rfl rfl (Nat.le_of_ble_eq_true rfl) dX12_init_116 (q := b) rfl (fun H locs hz => ?_)
  replace hz : Zc E b [.inr (12, [.int 0, .ref (b + 1), .ref (b + 2), .int 0, .int 0, .int 0, .int 0, .int 0, .int 0, .ref (b + 3), .ref (b + 4), .int 0, .int 0, .int 0, .int 0, .int 0, .ref (b + 5), .ref (b + 6), .ref (b + 7), .ref (b + 8), .ref (b + 9), .ref (b + 10), .ref (b + 11), .ref (b + 12), .ref (b + 13), .int 0, .int 0, .int 0, .int 0, .int 0, .int 0, .int 0, .int 0, .null, .null, .int 0, .int 0, .int 0, .int 0]), .inl (E.2.2.2.1 0, (1055, .inl (fun _ => 0))), .inl (E.2.2.2.1 0, (1055, .inl (fun _ => 0))), .inl (E.2.2.2.1 0, (6, .inl (fun _ => 0))), .inl (E.2.2.2.1 3, (64, .inl (fun _ => 0))), .inl (E.2.2.2.1 0, (4800, .inl (fun _ => 0))), .inl (E.2.2.2.1 0, (4800, .inl (fun _ => 0))), .inl (E.2.2.2.1 0, (4800, .inl (fun _ => 0))), .inl (E.2.2.2.1 0, (4800, .inl (fun _ => 0))), .inl (E.2.2.2.1 3, (4800, .inl (fun _ => 0))), .inl (E.2.2.2.1 0, (4200, .inl (fun _ => 0))), .inl (E.2.2.2.1 0, (21600, .inl (fun _ => 0))), .inl (E.2.2.2.1 2, (4200, .inr (.inl (fun _ => 0)))), .inl (E.2.2.2.1 2, (21600, .inr (.inl (fun _ => 0))))] s H _ := hz
  refine lv_aload_n hx hb dX12_init_119 rfl (lv_at hl 0 rfl) ?_
  refine lv_bipush (v := 72) hx hb dX12_init_120 (by decide) ?_
  refine z_newa C hz (atype := .int) (ty := .int) rfl kw_139 (t0 := 0) rfl (fun _ _ h => h) (N := 72) (a0 := (72, .inl (fun _ => 0))) rfl (by decide) (by decide +kernel) (Nat.le_of_ble_eq_true rfl) (Nat.le_of_ble_eq_true rfl) (Nat.le_of_ble_eq_true rfl) dX12_init_122 (q := (b + 14)) rfl (fun H hz => ?_)
  replace hz : Zc E b [.inr (12, [.int 0, .ref (b + 1), .ref (b + 2), .int 0, .int 0, .int 0, .int 0, .int 0, .int 0, .ref (b + 3), .ref (b + 4), .int 0, .int 0, .int 0, .int 0, .int 0, .ref (b + 5), .ref (b + 6), .ref (b + 7), .ref (b + 8), .ref (b + 9), .ref (b + 10), .ref (b + 11), .ref (b + 12), .ref (b + 13), .int 0, .int 0, .int 0, .int 0, .int 0, .int 0, .int 0, .int 0, .null, .null, .int 0, .int 0, .int 0, .int 0]), .inl (E.2.2.2.1 0, (1055, .inl (fun _ => 0))), .inl (E.2.2.2.1 0, (1055, .inl (fun _ => 0))), .inl (E.2.2.2.1 0, (6, .inl (fun _ => 0))), .inl (E.2.2.2.1 3, (64, .inl (fun _ => 0))), .inl (E.2.2.2.1 0, (4800, .inl (fun _ => 0))), .inl (E.2.2.2.1 0, (4800, .inl (fun _ => 0))), .inl (E.2.2.2.1 0, (4800, .inl (fun _ => 0))), .inl (E.2.2.2.1 0, (4800, .inl (fun _ => 0))), .inl (E.2.2.2.1 3, (4800, .inl (fun _ => 0))), .inl (E.2.2.2.1 0, (4200, .inl (fun _ => 0))), .inl (E.2.2.2.1 0, (21600, .inl (fun _ => 0))), .inl (E.2.2.2.1 2, (4200, .inr (.inl (fun _ => 0)))), .inl (E.2.2.2.1 2, (21600, .inr (.inl (fun _ => 0)))), .inl (E.2.2.2.1 0, (72, .inl (fun _ => 0)))] s H _ := hz
  refine z_put C hz (c0 := 0) (Tf := TX12) (N := 39) (k := 33) (ty := tyX12 33) rfl rfl inX12 tyX12 tyX12_ok nmX12 (by decide) kw_1051 rfl rfl (by decide +kernel) rfl rfl (Nat.le_of_ble_eq_true rfl) dX12_init_124 (q := b) rfl (fun H locs hz => ?_)
  replace hz : Zc E b [.inr (12, [.int 0, .ref (b + 1), .ref (b + 2), .int 0, .int 0, .int 0, .int 0, .int 0, .int 0, .ref (b + 3), .ref (b + 4), .int 0, .int 0, .int 0, .int 0, .int 0, .ref (b + 5), .ref (b + 6), .ref (b + 7), .ref (b + 8), .ref (b + 9), .ref (b + 10), .ref (b + 11), .ref (b + 12), .ref (b + 13), .int 0, .int 0, .int 0, .int 0, .int 0, .int 0, .int 0, .int 0, .ref (b + 14), .null, .int 0, .int 0, .int 0, .int 0]), .inl (E.2.2.2.1 0, (1055, .inl (fun _ => 0))), .inl (E.2.2.2.1 0, (1055, .inl (fun _ => 0))), .inl (E.2.2.2.1 0, (6, .inl (fun _ => 0))), .inl (E.2.2.2.1 3, (64, .inl (fun _ => 0))), .inl (E.2.2.2.1 0, (4800, .inl (fun _ => 0))), .inl (E.2.2.2.1 0, (4800, .inl (fun _ => 0))), .inl (E.2.2.2.1 0, (4800, .inl (fun _ => 0))), .inl (E.2.2.2.1 0, (4800, .inl (fun _ => 0))), .inl (E.2.2.2.1 3, (4800, .inl (fun _ => 0))), .inl (E.2.2.2.1 0, (4200, .inl (fun _ => 0))), .inl (E.2.2.2.1 0, (21600, .inl (fun _ => 0))), .inl (E.2.2.2.1 2, (4200, .inr (.inl (fun _ => 0)))), .inl (E.2.2.2.1 2, (21600, .inr (.inl (fun _ => 0)))), .inl (E.2.2.2.1 0, (72, .inl (fun _ => 0)))] s H _ := hz
  refine lv_aload_n hx hb dX12_init_127 rfl (lv_at hl 0 rfl) ?_
  refine lv_bipush (v := 20) hx hb dX12_init_128 (by decide) ?_
  refine z_newa C hz (atype := .int) (ty := .int) rfl kw_139 (t0 := 0) rfl (fun _ _ h => h) (N := 20) (a0 := (20, .inl (fun _ => 0))) rfl (by decide) (by decide +kernel) (Nat.le_of_ble_eq_true rfl) (Nat.le_of_ble_eq_true rfl) (Nat.le_of_ble_eq_true rfl) dX12_init_130 (q := (b + 15)) rfl (fun H hz => ?_)
  replace hz : Zc E b [.inr (12, [.int 0, .ref (b + 1), .ref (b + 2), .int 0, .int 0, .int 0, .int 0, .int 0, .int 0, .ref (b + 3), .ref (b + 4), .int 0, .int 0, .int 0, .int 0, .int 0, .ref (b + 5), .ref (b + 6), .ref (b + 7), .ref (b + 8), .ref (b + 9), .ref (b + 10), .ref (b + 11), .ref (b + 12), .ref (b + 13), .int 0, .int 0, .int 0, .int 0, .int 0, .int 0, .int 0, .int 0, .ref (b + 14), .null, .int 0, .int 0, .int 0, .int 0]), .inl (E.2.2.2.1 0, (1055, .inl (fun _ => 0))), .inl (E.2.2.2.1 0, (1055, .inl (fun _ => 0))), .inl (E.2.2.2.1 0, (6, .inl (fun _ => 0))), .inl (E.2.2.2.1 3, (64, .inl (fun _ => 0))), .inl (E.2.2.2.1 0, (4800, .inl (fun _ => 0))), .inl (E.2.2.2.1 0, (4800, .inl (fun _ => 0))), .inl (E.2.2.2.1 0, (4800, .inl (fun _ => 0))), .inl (E.2.2.2.1 0, (4800, .inl (fun _ => 0))), .inl (E.2.2.2.1 3, (4800, .inl (fun _ => 0))), .inl (E.2.2.2.1 0, (4200, .inl (fun _ => 0))), .inl (E.2.2.2.1 0, (21600, .inl (fun _ => 0))), .inl (E.2.2.2.1 2, (4200, .inr (.inl (fun _ => 0)))), .inl (E.2.2.2.1 2, (21600, .inr (.inl (fun _ => 0)))), .inl (E.2.2.2.1 0, (72, .inl (fun _ => 0))), .inl (E.2.2.2.1 0, (20, .inl (fun _ => 0)))] s H _ := hz
  refine z_put C hz (c0 := 0) (Tf := TX12) (N := 39) (k := 34) (ty := tyX12 34) rfl rfl inX12 tyX12 tyX12_ok nmX12 (by decide) kw_1052 rfl rfl (by decide +kernel) rfl rfl (Nat.le_of_ble_eq_true rfl) dX12_init_132 (q := b) rfl (fun H locs hz => ?_)
  replace hz : Zc E b [.inr (12, [.int 0, .ref (b + 1), .ref (b + 2), .int 0, .int 0, .int 0, .int 0, .int 0, .int 0, .ref (b + 3), .ref (b + 4), .int 0, .int 0, .int 0, .int 0, .int 0, .ref (b + 5), .ref (b + 6), .ref (b + 7), .ref (b + 8), .ref (b + 9), .ref (b + 10), .ref (b + 11), .ref (b + 12), .ref (b + 13), .int 0, .int 0, .int 0, .int 0, .int 0, .int 0, .int 0, .int 0, .ref (b + 14), .ref (b + 15), .int 0, .int 0, .int 0, .int 0]), .inl (E.2.2.2.1 0, (1055, .inl (fun _ => 0))), .inl (E.2.2.2.1 0, (1055, .inl (fun _ => 0))), .inl (E.2.2.2.1 0, (6, .inl (fun _ => 0))), .inl (E.2.2.2.1 3, (64, .inl (fun _ => 0))), .inl (E.2.2.2.1 0, (4800, .inl (fun _ => 0))), .inl (E.2.2.2.1 0, (4800, .inl (fun _ => 0))), .inl (E.2.2.2.1 0, (4800, .inl (fun _ => 0))), .inl (E.2.2.2.1 0, (4800, .inl (fun _ => 0))), .inl (E.2.2.2.1 3, (4800, .inl (fun _ => 0))), .inl (E.2.2.2.1 0, (4200, .inl (fun _ => 0))), .inl (E.2.2.2.1 0, (21600, .inl (fun _ => 0))), .inl (E.2.2.2.1 2, (4200, .inr (.inl (fun _ => 0)))), .inl (E.2.2.2.1 2, (21600, .inr (.inl (fun _ => 0)))), .inl (E.2.2.2.1 0, (72, .inl (fun _ => 0))), .inl (E.2.2.2.1 0, (20, .inl (fun _ => 0)))] s H _ := hz
  refine lv_aload_n hx hb dX12_init_135 rfl (lv_at hl 0 rfl) ?_
  refine z_get C hz (c0 := 0) (Tf := TX12) (N := 39) (k := 1) rfl rfl inX12 (by decide) kw_1019 rfl rfl dX12_init_136 (q := b) rfl ?_
  refine lv_iconst (v := 5) hx hb dX12_init_139 (by decide) ?_
  refine lv_iconst (v := (-1)) hx hb dX12_init_140 (by decide) ?_
  refine z_iast C hz (c0 := 1) rfl (by unfold vp_in; decide) dX12_init_141 (q := (b + 1)) rfl (fun H locs hz => ?_)
  replace hz : Zc E b [.inr (12, [.int 0, .ref (b + 1), .ref (b + 2), .int 0, .int 0, .int 0, .int 0, .int 0, .int 0, .ref (b + 3), .ref (b + 4), .int 0, .int 0, .int 0, .int 0, .int 0, .ref (b + 5), .ref (b + 6), .ref (b + 7), .ref (b + 8), .ref (b + 9), .ref (b + 10), .ref (b + 11), .ref (b + 12), .ref (b + 13), .int 0, .int 0, .int 0, .int 0, .int 0, .int 0, .int 0, .int 0, .ref (b + 14), .ref (b + 15), .int 0, .int 0, .int 0, .int 0]), .inl (E.2.2.2.1 0, 1055, .inl (upd (fun _ => 0) (5 : Int32).toNatClampNeg (-1))), .inl (E.2.2.2.1 0, (1055, .inl (fun _ => 0))), .inl (E.2.2.2.1 0, (6, .inl (fun _ => 0))), .inl (E.2.2.2.1 3, (64, .inl (fun _ => 0))), .inl (E.2.2.2.1 0, (4800, .inl (fun _ => 0))), .inl (E.2.2.2.1 0, (4800, .inl (fun _ => 0))), .inl (E.2.2.2.1 0, (4800, .inl (fun _ => 0))), .inl (E.2.2.2.1 0, (4800, .inl (fun _ => 0))), .inl (E.2.2.2.1 3, (4800, .inl (fun _ => 0))), .inl (E.2.2.2.1 0, (4200, .inl (fun _ => 0))), .inl (E.2.2.2.1 0, (21600, .inl (fun _ => 0))), .inl (E.2.2.2.1 2, (4200, .inr (.inl (fun _ => 0)))), .inl (E.2.2.2.1 2, (21600, .inr (.inl (fun _ => 0)))), .inl (E.2.2.2.1 0, (72, .inl (fun _ => 0))), .inl (E.2.2.2.1 0, (20, .inl (fun _ => 0)))] s H _ := hz
  refine lv_iconst (v := 0) hx hb dX12_init_142 (by decide) ?_
  refine lv_istore_n (lv' := [(1, .int (0 : Int32)), (0, .ref b)]) hx hb dX12_init_143 rfl hl (by decide) rfl (fun ls hl => ?_)
  refine lv_iload_n hx hb dX12_init_144 rfl (lv_at hl 0 rfl) ?_
  refine lv_bipush (v := 6) hx hb dX12_init_145 (by decide) ?_
  refine lv_icmp_ge (tgt := 172) hx hb dX12_init_147 (by decide) (fun q => absurd q (by decide)) (fun _ => ?_)
  refine lv_aload_n hx hb dX12_init_150 rfl (lv_at hl 1 rfl) ?_
  refine z_get C hz (c0 := 0) (Tf := TX12) (N := 39) (k := 1) rfl rfl inX12 (by decide) kw_1019 rfl rfl dX12_init_151 (q := b) rfl ?_
  refine lv_sipush (v := 851) hx hb dX12_init_154 (by decide) ?_
  refine lv_bipush (v := 7) hx hb dX12_init_157 (by decide) ?_
  refine lv_iload_n hx hb dX12_init_159 rfl (lv_at hl 0 rfl) ?_
  refine lv_imul hx hb dX12_init_160 ?_
  refine q_top (y := 0) (by decide) ?_
  refine lv_iadd hx hb dX12_init_161 ?_
  refine q_top (y := 851) (by decide) ?_
  refine lv_sipush (v := 1000) hx hb dX12_init_162 (by decide) ?_
  refine z_iast C hz (c0 := 1) rfl (by unfold vp_in; decide) dX12_init_165 (q := (b + 1)) rfl (fun H locs hz => ?_)
  replace hz : Zc E b [.inr (12, [.int 0, .ref (b + 1), .ref (b + 2), .int 0, .int 0, .int 0, .int 0, .int 0, .int 0, .ref (b + 3), .ref (b + 4), .int 0, .int 0, .int 0, .int 0, .int 0, .ref (b + 5), .ref (b + 6), .ref (b + 7), .ref (b + 8), .ref (b + 9), .ref (b + 10), .ref (b + 11), .ref (b + 12), .ref (b + 13), .int 0, .int 0, .int 0, .int 0, .int 0, .int 0, .int 0, .int 0, .ref (b + 14), .ref (b + 15), .int 0, .int 0, .int 0, .int 0]), .inl (E.2.2.2.1 0, 1055, .inl (upd (upd (fun _ => 0) (5 : Int32).toNatClampNeg (-1)) (851 : Int32).toNatClampNeg (1000))), .inl (E.2.2.2.1 0, (1055, .inl (fun _ => 0))), .inl (E.2.2.2.1 0, (6, .inl (fun _ => 0))), .inl (E.2.2.2.1 3, (64, .inl (fun _ => 0))), .inl (E.2.2.2.1 0, (4800, .inl (fun _ => 0))), .inl (E.2.2.2.1 0, (4800, .inl (fun _ => 0))), .inl (E.2.2.2.1 0, (4800, .inl (fun _ => 0))), .inl (E.2.2.2.1 0, (4800, .inl (fun _ => 0))), .inl (E.2.2.2.1 3, (4800, .inl (fun _ => 0))), .inl (E.2.2.2.1 0, (4200, .inl (fun _ => 0))), .inl (E.2.2.2.1 0, (21600, .inl (fun _ => 0))), .inl (E.2.2.2.1 2, (4200, .inr (.inl (fun _ => 0)))), .inl (E.2.2.2.1 2, (21600, .inr (.inl (fun _ => 0)))), .inl (E.2.2.2.1 0, (72, .inl (fun _ => 0))), .inl (E.2.2.2.1 0, (20, .inl (fun _ => 0)))] s H _ := hz
  refine lv_iinc (v := 1) (lv' := [(1, .int (1 : Int32)), (0, .ref b)]) hx hb dX12_init_166 hl (k := 0) rfl (by decide) (by decide) rfl (fun ls hl => ?_)
  refine lv_goto (tgt := 144) hx hb dX12_init_169 (by decide) ?_
  refine lv_iload_n hx hb dX12_init_144 rfl (lv_at hl 0 rfl) ?_
  refine lv_bipush (v := 6) hx hb dX12_init_145 (by decide) ?_
  refine lv_icmp_ge (tgt := 172) hx hb dX12_init_147 (by decide) (fun q => absurd q (by decide)) (fun _ => ?_)
  refine lv_aload_n hx hb dX12_init_150 rfl (lv_at hl 1 rfl) ?_
  refine z_get C hz (c0 := 0) (Tf := TX12) (N := 39) (k := 1) rfl rfl inX12 (by decide) kw_1019 rfl rfl dX12_init_151 (q := b) rfl ?_
  refine lv_sipush (v := 851) hx hb dX12_init_154 (by decide) ?_
  refine lv_bipush (v := 7) hx hb dX12_init_157 (by decide) ?_
  refine lv_iload_n hx hb dX12_init_159 rfl (lv_at hl 0 rfl) ?_
  refine lv_imul hx hb dX12_init_160 ?_
  refine q_top (y := 7) (by decide) ?_
  refine lv_iadd hx hb dX12_init_161 ?_
  refine q_top (y := 858) (by decide) ?_
  refine lv_sipush (v := 1000) hx hb dX12_init_162 (by decide) ?_
  refine z_iast C hz (c0 := 1) rfl (by unfold vp_in; decide) dX12_init_165 (q := (b + 1)) rfl (fun H locs hz => ?_)
  replace hz : Zc E b [.inr (12, [.int 0, .ref (b + 1), .ref (b + 2), .int 0, .int 0, .int 0, .int 0, .int 0, .int 0, .ref (b + 3), .ref (b + 4), .int 0, .int 0, .int 0, .int 0, .int 0, .ref (b + 5), .ref (b + 6), .ref (b + 7), .ref (b + 8), .ref (b + 9), .ref (b + 10), .ref (b + 11), .ref (b + 12), .ref (b + 13), .int 0, .int 0, .int 0, .int 0, .int 0, .int 0, .int 0, .int 0, .ref (b + 14), .ref (b + 15), .int 0, .int 0, .int 0, .int 0]), .inl (E.2.2.2.1 0, 1055, .inl (upd (upd (upd (fun _ => 0) (5 : Int32).toNatClampNeg (-1)) (851 : Int32).toNatClampNeg (1000)) (858 : Int32).toNatClampNeg (1000))), .inl (E.2.2.2.1 0, (1055, .inl (fun _ => 0))), .inl (E.2.2.2.1 0, (6, .inl (fun _ => 0))), .inl (E.2.2.2.1 3, (64, .inl (fun _ => 0))), .inl (E.2.2.2.1 0, (4800, .inl (fun _ => 0))), .inl (E.2.2.2.1 0, (4800, .inl (fun _ => 0))), .inl (E.2.2.2.1 0, (4800, .inl (fun _ => 0))), .inl (E.2.2.2.1 0, (4800, .inl (fun _ => 0))), .inl (E.2.2.2.1 3, (4800, .inl (fun _ => 0))), .inl (E.2.2.2.1 0, (4200, .inl (fun _ => 0))), .inl (E.2.2.2.1 0, (21600, .inl (fun _ => 0))), .inl (E.2.2.2.1 2, (4200, .inr (.inl (fun _ => 0)))), .inl (E.2.2.2.1 2, (21600, .inr (.inl (fun _ => 0)))), .inl (E.2.2.2.1 0, (72, .inl (fun _ => 0))), .inl (E.2.2.2.1 0, (20, .inl (fun _ => 0)))] s H _ := hz
  refine lv_iinc (v := 2) (lv' := [(1, .int (2 : Int32)), (0, .ref b)]) hx hb dX12_init_166 hl (k := 0) rfl (by decide) (by decide) rfl (fun ls hl => ?_)
  refine lv_goto (tgt := 144) hx hb dX12_init_169 (by decide) ?_
  refine lv_iload_n hx hb dX12_init_144 rfl (lv_at hl 0 rfl) ?_
  refine lv_bipush (v := 6) hx hb dX12_init_145 (by decide) ?_
  refine lv_icmp_ge (tgt := 172) hx hb dX12_init_147 (by decide) (fun q => absurd q (by decide)) (fun _ => ?_)
  refine lv_aload_n hx hb dX12_init_150 rfl (lv_at hl 1 rfl) ?_
  refine z_get C hz (c0 := 0) (Tf := TX12) (N := 39) (k := 1) rfl rfl inX12 (by decide) kw_1019 rfl rfl dX12_init_151 (q := b) rfl ?_
  refine lv_sipush (v := 851) hx hb dX12_init_154 (by decide) ?_
  refine lv_bipush (v := 7) hx hb dX12_init_157 (by decide) ?_
  refine lv_iload_n hx hb dX12_init_159 rfl (lv_at hl 0 rfl) ?_
  refine lv_imul hx hb dX12_init_160 ?_
  refine q_top (y := 14) (by decide) ?_
  refine lv_iadd hx hb dX12_init_161 ?_
  refine q_top (y := 865) (by decide) ?_
  refine lv_sipush (v := 1000) hx hb dX12_init_162 (by decide) ?_
  refine z_iast C hz (c0 := 1) rfl (by unfold vp_in; decide) dX12_init_165 (q := (b + 1)) rfl (fun H locs hz => ?_)
  replace hz : Zc E b [.inr (12, [.int 0, .ref (b + 1), .ref (b + 2), .int 0, .int 0, .int 0, .int 0, .int 0, .int 0, .ref (b + 3), .ref (b + 4), .int 0, .int 0, .int 0, .int 0, .int 0, .ref (b + 5), .ref (b + 6), .ref (b + 7), .ref (b + 8), .ref (b + 9), .ref (b + 10), .ref (b + 11), .ref (b + 12), .ref (b + 13), .int 0, .int 0, .int 0, .int 0, .int 0, .int 0, .int 0, .int 0, .ref (b + 14), .ref (b + 15), .int 0, .int 0, .int 0, .int 0]), .inl (E.2.2.2.1 0, 1055, .inl (upd (upd (upd (upd (fun _ => 0) (5 : Int32).toNatClampNeg (-1)) (851 : Int32).toNatClampNeg (1000)) (858 : Int32).toNatClampNeg (1000)) (865 : Int32).toNatClampNeg (1000))), .inl (E.2.2.2.1 0, (1055, .inl (fun _ => 0))), .inl (E.2.2.2.1 0, (6, .inl (fun _ => 0))), .inl (E.2.2.2.1 3, (64, .inl (fun _ => 0))), .inl (E.2.2.2.1 0, (4800, .inl (fun _ => 0))), .inl (E.2.2.2.1 0, (4800, .inl (fun _ => 0))), .inl (E.2.2.2.1 0, (4800, .inl (fun _ => 0))), .inl (E.2.2.2.1 0, (4800, .inl (fun _ => 0))), .inl (E.2.2.2.1 3, (4800, .inl (fun _ => 0))), .inl (E.2.2.2.1 0, (4200, .inl (fun _ => 0))), .inl (E.2.2.2.1 0, (21600, .inl (fun _ => 0))), .inl (E.2.2.2.1 2, (4200, .inr (.inl (fun _ => 0)))), .inl (E.2.2.2.1 2, (21600, .inr (.inl (fun _ => 0)))), .inl (E.2.2.2.1 0, (72, .inl (fun _ => 0))), .inl (E.2.2.2.1 0, (20, .inl (fun _ => 0)))] s H _ := hz
  refine lv_iinc (v := 3) (lv' := [(1, .int (3 : Int32)), (0, .ref b)]) hx hb dX12_init_166 hl (k := 0) rfl (by decide) (by decide) rfl (fun ls hl => ?_)
  refine lv_goto (tgt := 144) hx hb dX12_init_169 (by decide) ?_
  refine lv_iload_n hx hb dX12_init_144 rfl (lv_at hl 0 rfl) ?_
  refine lv_bipush (v := 6) hx hb dX12_init_145 (by decide) ?_
  refine lv_icmp_ge (tgt := 172) hx hb dX12_init_147 (by decide) (fun q => absurd q (by decide)) (fun _ => ?_)
  refine lv_aload_n hx hb dX12_init_150 rfl (lv_at hl 1 rfl) ?_
  refine z_get C hz (c0 := 0) (Tf := TX12) (N := 39) (k := 1) rfl rfl inX12 (by decide) kw_1019 rfl rfl dX12_init_151 (q := b) rfl ?_
  refine lv_sipush (v := 851) hx hb dX12_init_154 (by decide) ?_
  refine lv_bipush (v := 7) hx hb dX12_init_157 (by decide) ?_
  refine lv_iload_n hx hb dX12_init_159 rfl (lv_at hl 0 rfl) ?_
  refine lv_imul hx hb dX12_init_160 ?_
  refine q_top (y := 21) (by decide) ?_
  refine lv_iadd hx hb dX12_init_161 ?_
  refine q_top (y := 872) (by decide) ?_
  refine lv_sipush (v := 1000) hx hb dX12_init_162 (by decide) ?_
  refine z_iast C hz (c0 := 1) rfl (by unfold vp_in; decide) dX12_init_165 (q := (b + 1)) rfl (fun H locs hz => ?_)
  replace hz : Zc E b [.inr (12, [.int 0, .ref (b + 1), .ref (b + 2), .int 0, .int 0, .int 0, .int 0, .int 0, .int 0, .ref (b + 3), .ref (b + 4), .int 0, .int 0, .int 0, .int 0, .int 0, .ref (b + 5), .ref (b + 6), .ref (b + 7), .ref (b + 8), .ref (b + 9), .ref (b + 10), .ref (b + 11), .ref (b + 12), .ref (b + 13), .int 0, .int 0, .int 0, .int 0, .int 0, .int 0, .int 0, .int 0, .ref (b + 14), .ref (b + 15), .int 0, .int 0, .int 0, .int 0]), .inl (E.2.2.2.1 0, 1055, .inl (upd (upd (upd (upd (upd (fun _ => 0) (5 : Int32).toNatClampNeg (-1)) (851 : Int32).toNatClampNeg (1000)) (858 : Int32).toNatClampNeg (1000)) (865 : Int32).toNatClampNeg (1000)) (872 : Int32).toNatClampNeg (1000))), .inl (E.2.2.2.1 0, (1055, .inl (fun _ => 0))), .inl (E.2.2.2.1 0, (6, .inl (fun _ => 0))), .inl (E.2.2.2.1 3, (64, .inl (fun _ => 0))), .inl (E.2.2.2.1 0, (4800, .inl (fun _ => 0))), .inl (E.2.2.2.1 0, (4800, .inl (fun _ => 0))), .inl (E.2.2.2.1 0, (4800, .inl (fun _ => 0))), .inl (E.2.2.2.1 0, (4800, .inl (fun _ => 0))), .inl (E.2.2.2.1 3, (4800, .inl (fun _ => 0))), .inl (E.2.2.2.1 0, (4200, .inl (fun _ => 0))), .inl (E.2.2.2.1 0, (21600, .inl (fun _ => 0))), .inl (E.2.2.2.1 2, (4200, .inr (.inl (fun _ => 0)))), .inl (E.2.2.2.1 2, (21600, .inr (.inl (fun _ => 0)))), .inl (E.2.2.2.1 0, (72, .inl (fun _ => 0))), .inl (E.2.2.2.1 0, (20, .inl (fun _ => 0)))] s H _ := hz
  refine lv_iinc (v := 4) (lv' := [(1, .int (4 : Int32)), (0, .ref b)]) hx hb dX12_init_166 hl (k := 0) rfl (by decide) (by decide) rfl (fun ls hl => ?_)
  refine lv_goto (tgt := 144) hx hb dX12_init_169 (by decide) ?_
  refine lv_iload_n hx hb dX12_init_144 rfl (lv_at hl 0 rfl) ?_
  refine lv_bipush (v := 6) hx hb dX12_init_145 (by decide) ?_
  refine lv_icmp_ge (tgt := 172) hx hb dX12_init_147 (by decide) (fun q => absurd q (by decide)) (fun _ => ?_)
  refine lv_aload_n hx hb dX12_init_150 rfl (lv_at hl 1 rfl) ?_
  refine z_get C hz (c0 := 0) (Tf := TX12) (N := 39) (k := 1) rfl rfl inX12 (by decide) kw_1019 rfl rfl dX12_init_151 (q := b) rfl ?_
  refine lv_sipush (v := 851) hx hb dX12_init_154 (by decide) ?_
  refine lv_bipush (v := 7) hx hb dX12_init_157 (by decide) ?_
  refine lv_iload_n hx hb dX12_init_159 rfl (lv_at hl 0 rfl) ?_
  refine lv_imul hx hb dX12_init_160 ?_
  refine q_top (y := 28) (by decide) ?_
  refine lv_iadd hx hb dX12_init_161 ?_
  refine q_top (y := 879) (by decide) ?_
  refine lv_sipush (v := 1000) hx hb dX12_init_162 (by decide) ?_
  refine z_iast C hz (c0 := 1) rfl (by unfold vp_in; decide) dX12_init_165 (q := (b + 1)) rfl (fun H locs hz => ?_)
  replace hz : Zc E b [.inr (12, [.int 0, .ref (b + 1), .ref (b + 2), .int 0, .int 0, .int 0, .int 0, .int 0, .int 0, .ref (b + 3), .ref (b + 4), .int 0, .int 0, .int 0, .int 0, .int 0, .ref (b + 5), .ref (b + 6), .ref (b + 7), .ref (b + 8), .ref (b + 9), .ref (b + 10), .ref (b + 11), .ref (b + 12), .ref (b + 13), .int 0, .int 0, .int 0, .int 0, .int 0, .int 0, .int 0, .int 0, .ref (b + 14), .ref (b + 15), .int 0, .int 0, .int 0, .int 0]), .inl (E.2.2.2.1 0, 1055, .inl (upd (upd (upd (upd (upd (upd (fun _ => 0) (5 : Int32).toNatClampNeg (-1)) (851 : Int32).toNatClampNeg (1000)) (858 : Int32).toNatClampNeg (1000)) (865 : Int32).toNatClampNeg (1000)) (872 : Int32).toNatClampNeg (1000)) (879 : Int32).toNatClampNeg (1000))), .inl (E.2.2.2.1 0, (1055, .inl (fun _ => 0))), .inl (E.2.2.2.1 0, (6, .inl (fun _ => 0))), .inl (E.2.2.2.1 3, (64, .inl (fun _ => 0))), .inl (E.2.2.2.1 0, (4800, .inl (fun _ => 0))), .inl (E.2.2.2.1 0, (4800, .inl (fun _ => 0))), .inl (E.2.2.2.1 0, (4800, .inl (fun _ => 0))), .inl (E.2.2.2.1 0, (4800, .inl (fun _ => 0))), .inl (E.2.2.2.1 3, (4800, .inl (fun _ => 0))), .inl (E.2.2.2.1 0, (4200, .inl (fun _ => 0))), .inl (E.2.2.2.1 0, (21600, .inl (fun _ => 0))), .inl (E.2.2.2.1 2, (4200, .inr (.inl (fun _ => 0)))), .inl (E.2.2.2.1 2, (21600, .inr (.inl (fun _ => 0)))), .inl (E.2.2.2.1 0, (72, .inl (fun _ => 0))), .inl (E.2.2.2.1 0, (20, .inl (fun _ => 0)))] s H _ := hz
  refine lv_iinc (v := 5) (lv' := [(1, .int (5 : Int32)), (0, .ref b)]) hx hb dX12_init_166 hl (k := 0) rfl (by decide) (by decide) rfl (fun ls hl => ?_)
  refine lv_goto (tgt := 144) hx hb dX12_init_169 (by decide) ?_
  refine lv_iload_n hx hb dX12_init_144 rfl (lv_at hl 0 rfl) ?_
  refine lv_bipush (v := 6) hx hb dX12_init_145 (by decide) ?_
  refine lv_icmp_ge (tgt := 172) hx hb dX12_init_147 (by decide) (fun q => absurd q (by decide)) (fun _ => ?_)
  refine lv_aload_n hx hb dX12_init_150 rfl (lv_at hl 1 rfl) ?_
  refine z_get C hz (c0 := 0) (Tf := TX12) (N := 39) (k := 1) rfl rfl inX12 (by decide) kw_1019 rfl rfl dX12_init_151 (q := b) rfl ?_
  refine lv_sipush (v := 851) hx hb dX12_init_154 (by decide) ?_
  refine lv_bipush (v := 7) hx hb dX12_init_157 (by decide) ?_
  refine lv_iload_n hx hb dX12_init_159 rfl (lv_at hl 0 rfl) ?_
  refine lv_imul hx hb dX12_init_160 ?_
  refine q_top (y := 35) (by decide) ?_
  refine lv_iadd hx hb dX12_init_161 ?_
  refine q_top (y := 886) (by decide) ?_
  refine lv_sipush (v := 1000) hx hb dX12_init_162 (by decide) ?_
  refine z_iast C hz (c0 := 1) rfl (by unfold vp_in; decide) dX12_init_165 (q := (b + 1)) rfl (fun H locs hz => ?_)
  replace hz : Zc E b [.inr (12, [.int 0, .ref (b + 1), .ref (b + 2), .int 0, .int 0, .int 0, .int 0, .int 0, .int 0, .ref (b + 3), .ref (b + 4), .int 0, .int 0, .int 0, .int 0, .int 0, .ref (b + 5), .ref (b + 6), .ref (b + 7), .ref (b + 8), .ref (b + 9), .ref (b + 10), .ref (b + 11), .ref (b + 12), .ref (b + 13), .int 0, .int 0, .int 0, .int 0, .int 0, .int 0, .int 0, .int 0, .ref (b + 14), .ref (b + 15), .int 0, .int 0, .int 0, .int 0]), .inl (E.2.2.2.1 0, 1055, .inl (upd (upd (upd (upd (upd (upd (upd (fun _ => 0) (5 : Int32).toNatClampNeg (-1)) (851 : Int32).toNatClampNeg (1000)) (858 : Int32).toNatClampNeg (1000)) (865 : Int32).toNatClampNeg (1000)) (872 : Int32).toNatClampNeg (1000)) (879 : Int32).toNatClampNeg (1000)) (886 : Int32).toNatClampNeg (1000))), .inl (E.2.2.2.1 0, (1055, .inl (fun _ => 0))), .inl (E.2.2.2.1 0, (6, .inl (fun _ => 0))), .inl (E.2.2.2.1 3, (64, .inl (fun _ => 0))), .inl (E.2.2.2.1 0, (4800, .inl (fun _ => 0))), .inl (E.2.2.2.1 0, (4800, .inl (fun _ => 0))), .inl (E.2.2.2.1 0, (4800, .inl (fun _ => 0))), .inl (E.2.2.2.1 0, (4800, .inl (fun _ => 0))), .inl (E.2.2.2.1 3, (4800, .inl (fun _ => 0))), .inl (E.2.2.2.1 0, (4200, .inl (fun _ => 0))), .inl (E.2.2.2.1 0, (21600, .inl (fun _ => 0))), .inl (E.2.2.2.1 2, (4200, .inr (.inl (fun _ => 0)))), .inl (E.2.2.2.1 2, (21600, .inr (.inl (fun _ => 0)))), .inl (E.2.2.2.1 0, (72, .inl (fun _ => 0))), .inl (E.2.2.2.1 0, (20, .inl (fun _ => 0)))] s H _ := hz
  refine lv_iinc (v := 6) (lv' := [(1, .int (6 : Int32)), (0, .ref b)]) hx hb dX12_init_166 hl (k := 0) rfl (by decide) (by decide) rfl (fun ls hl => ?_)
  refine lv_goto (tgt := 144) hx hb dX12_init_169 (by decide) ?_
  refine lv_iload_n hx hb dX12_init_144 rfl (lv_at hl 0 rfl) ?_
  refine lv_bipush (v := 6) hx hb dX12_init_145 (by decide) ?_
  refine lv_icmp_ge (tgt := 172) hx hb dX12_init_147 (by decide) (fun _ => ?_) (fun q => absurd (by decide) q)
  exact z_ret C hz rfl dX12_init_172
