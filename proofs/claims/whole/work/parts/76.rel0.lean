/-! AT THE START; ALL STEPS -/
theorem start_1 : ∀ w : Fin 6, ∀ i : Fin 6, gI sig0 6 (6 * w.val + i.val) = nI (if i.val = w.val then 1000 else 0) ∧ gI mu0 1 (851 + 6 * w.val + i.val) = nI (if i.val = w.val then 1000 else 0) := by decide +kernel
theorem start_2 : ∀ i : Fin 6, gI sig0 7 i.val = gI mu0 1 (5 + i.val) := by decide +kernel
theorem start_3 : gI mu0 1 0 = nI 0 ∧ gI mu0 1 1 = nI 0 ∧ gI mu0 1 2 = nI 0 ∧ gI mu0 1 3 = nI 0 ∧ gI mu0 1 4 = nI 0 ∧ gI mu0 1 5 = -1 ∧ gI mu0 1 6 = nI 0 ∧ gI mu0 1 7 = nI 0 ∧ gI mu0 1 8 = nI 0 ∧ gI mu0 1 10 = nI 0 := by decide +kernel
theorem rel_0 : Rel 64 sig0 mu0 := by
  obtain ⟨u0, u1, u2, u3, u4, u5, u6, u7, u8, u10⟩ := start_3
  refine ⟨Nat.le_refl _, fun _ => (fun _ _ => 0, 0, 0, 0), 0, ⟨by omega, rfl, u0, ?_, ?_, ?_, ?_, ?_, ?_, ?_⟩, ?_, ?_, ?_, ?_, ?_⟩
  · refine ⟨?_, ⟨0, by omega, u4, fun j hj => by omega⟩, fun j hj => ?_⟩
    · rw [u4]
      rfl
    · show ((0 : Int32).toInt8).toInt32 = 0
      decide
  · intro w hw
    refine ⟨fun i => if i = w then 1000 else 0, fun i hi => start_1 ⟨w, hw⟩ ⟨i, hi⟩, ?_⟩
    have : ∀ q : Fin 6, (if 0 = q.val then 1000 else 0) + (if 1 = q.val then 1000 else 0) + (if 2 = q.val then 1000 else 0) + (if 3 = q.val then 1000 else 0) + (if 4 = q.val then 1000 else 0) + (if 5 = q.val then 1000 else 0) = 1000 := by decide
    exact this ⟨w, hw⟩
  · refine ⟨fun i hi => start_2 ⟨i, hi⟩, Or.inl u5, ⟨0, by omega, u6⟩, ⟨0, by omega, u7⟩, ⟨0, by omega, u8⟩, ⟨0, by omega, u10⟩⟩
  · refine ⟨?_, 0, by omega, u1, fun i hi => by omega⟩
    rw [u1]
    rfl
  · refine ⟨?_, 0, by omega, u2, fun i hi => by omega⟩
    rw [u2]
    rfl
  · refine ⟨?_, 0, by omega, u3, fun _ => 0, fun _ => 0, fun _ => 0, fun i hi => by omega, fun _ => 0, fun i hi => by omega, fun i j a b => by omega, fun o ho => by omega⟩
    rw [u3]
    rfl
  · intro k hk
    omega
  · intro k hk
    omega
  · exact Or.inl ⟨rfl, rfl⟩
  · refine ⟨1, 1, by omega, by omega, by omega, by omega, rfl, rfl, fun i _ => ⟨0, by omega, rfl⟩, fun i _ => ⟨0, by omega, rfl⟩, fun k hk => by omega⟩
  · exact ⟨0, 0, by omega, by omega, rfl, rfl, fun i _ => ⟨0, by omega, rfl⟩, fun i _ => ⟨0, by omega, rfl⟩, fun i _ => ⟨0, by omega, rfl⟩⟩
  · exact ⟨0, by omega, rfl, rfl, fun i hi => by omega⟩
theorem rel_steps : LawSteps Rel := ⟨op_feed, op_mill, op_hour, op_wind, op_chance, op_lead, op_led, op_go, op_rule, op_row, op_sets, op_mean, op_best, op_dress, op_day, op_judged, op_order, op_take, op_late, op_ridge, op_run, op_act, op_trace, op_as, op_image, op_undo, op_count⟩
