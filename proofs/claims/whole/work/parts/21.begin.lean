def chance0 : Nat → Int32 := (upd (upd (upd (upd (upd (upd (fun _ => 0) (0 : Int32).toNatClampNeg (1000)) (7 : Int32).toNatClampNeg (1000)) (14 : Int32).toNatClampNeg (1000)) (21 : Int32).toNatClampNeg (1000)) (28 : Int32).toNatClampNeg (1000)) (35 : Int32).toNatClampNeg (1000))
def ms0 : Nat → Int32 := (upd (upd (upd (upd (upd (upd (upd (fun _ => 0) (5 : Int32).toNatClampNeg (-1)) (851 : Int32).toNatClampNeg (1000)) (858 : Int32).toNatClampNeg (1000)) (865 : Int32).toNatClampNeg (1000)) (872 : Int32).toNatClampNeg (1000)) (879 : Int32).toNatClampNeg (1000)) (886 : Int32).toNatClampNeg (1000))
def led0 : Nat → Int32 := fun k => match k with
  | 0 => -1
  | _ => 0
def pla0 : Nat → Int32 := fun k => match k with
  | 4 => 1
  | 5 => 1
  | _ => 0
def sig0 : Mem := (fun c => match c with
  | 6 => chance0
  | 25 => chance0
  | 7 => led0
  | 26 => led0
  | 41 => pla0
  | _ => fun _ => 0, fun _ _ => 0)
def mu0 : Mem := (fun c => match c with
  | 1 => ms0
  | _ => fun _ => 0, fun _ _ => 0)
theorem arrV_congr {cA : ClassId} {n : Nat} {f g : Nat → Value} (h : ∀ j, j < n → f j = g j) : arrV cA n f = arrV cA n g := by
  unfold arrV
  congr 2
  funext j
  exact h j.val j.isLt
theorem cv_at {T : List (Nat × Nat)} {E : EV} {σ : Mem} {D : va_G} {cl : List vw_C} {H : Heap} {k : Nat} {kn : Nat × Nat} (hT : T[k]? = some kn) (h : va_at D cl (E.2.1 k, cel E k kn (σ.1 k) (σ.2 k)) H) : ∀ q, (wd T E σ)[k]? = some q → va_at D cl q H := by
  intro q hq
  rw [wd_at E σ hT] at hq
  cases hq
  exact h
theorem wd_Dz {T : List (Nat × Nat)} {E : EV} {σ : Mem} {b n : Nat} (hE : ∀ c, E.2.1 c = b + c) (hn : T.length = n) : va_D (fun q => b ≤ q ∧ q < b + n) (wd T E σ) := by
  have key : ∀ (k : Nat) (q : Nat × va_E), (wd T E σ)[k]? = some q → q.1 = b + k ∧ k < n := by
    intro k q hq
    have hl := (List.getElem?_eq_some_iff.mp hq).1
    rw [wd_len, hn] at hl
    simp only [wd, List.getElem?_mapIdx, Option.map_eq_some_iff] at hq
    obtain ⟨kn, -, rfl⟩ := hq
    exact ⟨hE k, hl⟩
  refine ⟨fun i j x y hi hj hxy => ?_, fun k q hk => ?_⟩
  · have h1 := (key i x hi).1
    have h2 := (key j y hj).1
    omega
  · have h1 := key k q hk
    exact ⟨by omega, by omega⟩
theorem mills_at {ca : ClassId} {b : Nat} {H : Heap} (h : H[b + 1]? = some (vp_cell ca (5, .inr (.inr (.inr (.inr (va_up (va_up (va_up (va_up (va_up (fun _ => none) (0 : Int32).toNatClampNeg (some (b + 48))) (1 : Int32).toNatClampNeg (some (b + 55))) (2 : Int32).toNatClampNeg (some (b + 62))) (3 : Int32).toNatClampNeg (some (b + 69))) (4 : Int32).toNatClampNeg (some (b + 76))))))))) :
    H[b + 1]? = some (vp_cell ca (5, .inr (.inr (.inr (.inr (fun j => some (b + mo j))))))) := by
  rw [h, vp_cell_q, vp_cell_q]
  refine congrArg some (arrV_congr (fun j hj => ?_))
  have e0 : (0 : Int32).toNatClampNeg = 0 := by decide +kernel
  have e1 : (1 : Int32).toNatClampNeg = 1 := by decide +kernel
  have e2 : (2 : Int32).toNatClampNeg = 2 := by decide +kernel
  have e3 : (3 : Int32).toNatClampNeg = 3 := by decide +kernel
  have e4 : (4 : Int32).toNatClampNeg = 4 := by decide +kernel
  rw [e0, e1, e2, e3, e4]
  match j, hj with
  | 0, _ => rfl
  | 1, _ => rfl
  | 2, _ => rfl
  | 3, _ => rfl
  | 4, _ => rfl
  | j + 5, h => exact absurd h (by omega)
set_option maxHeartbeats 4000000 in
set_option maxRecDepth 100000 in
theorem conv_C {E : EV} {b : Nat} {H : Heap} {A : Nat → Prop} {st : Nat → Nat} (hP : va_P E.1 vwCl (wz b (es_X11 E b)) H) : va_P E.1 vwCl (wd TC (E.1, fun c => b + c, A, E.2.2.2.1, st) sig0) H := by
  have key : ∀ k, k < 83 → ∀ q, (wd TC (E.1, fun c => b + c, A, E.2.2.2.1, st) sig0)[k]? = some q → va_at E.1 vwCl q H := by
    intro k hk
    match k, hk with
    | 0, _ => exact cv_at tC_0 (hP 0 _ (wz_get (e := cel (E.1, fun c => b + c, A, E.2.2.2.1, st) 0 (11, 0) (sig0.1 0) (sig0.2 0)) rfl))
    | 1, _ => exact cv_at tC_1 (mills_at (hP 1 _ (wz_get rfl)))
    | 2, _ => exact cv_at tC_2 (hP 2 _ (wz_get (e := cel (E.1, fun c => b + c, A, E.2.2.2.1, st) 2 (8, 0) (sig0.1 2) (sig0.2 2)) rfl))
    | 3, _ => exact cv_at tC_3 (hP 3 _ (wz_get (e := cel (E.1, fun c => b + c, A, E.2.2.2.1, st) 3 (9, 0) (sig0.1 3) (sig0.2 3)) rfl))
    | 4, _ => exact cv_at tC_4 (hP 4 _ (wz_get (e := cel (E.1, fun c => b + c, A, E.2.2.2.1, st) 4 (21, 120) (sig0.1 4) (sig0.2 4)) rfl))
    | 5, _ => exact cv_at tC_5 (hP 5 _ (wz_get (e := cel (E.1, fun c => b + c, A, E.2.2.2.1, st) 5 (10, 0) (sig0.1 5) (sig0.2 5)) rfl))
    | 6, _ => exact cv_at tC_6 (hP 6 _ (wz_get (e := cel (E.1, fun c => b + c, A, E.2.2.2.1, st) 6 (20, 36) (sig0.1 6) (sig0.2 6)) rfl))
    | 7, _ => exact cv_at tC_7 (hP 7 _ (wz_get (e := cel (E.1, fun c => b + c, A, E.2.2.2.1, st) 7 (2, 0) (sig0.1 7) (sig0.2 7)) rfl))
    | 8, _ => exact cv_at tC_8 (hP 8 _ (wz_get (e := cel (E.1, fun c => b + c, A, E.2.2.2.1, st) 8 (7, 0) (sig0.1 8) (sig0.2 8)) rfl))
    | 9, _ => exact cv_at tC_9 (hP 9 _ (wz_get (e := cel (E.1, fun c => b + c, A, E.2.2.2.1, st) 9 (20, 10) (sig0.1 9) (sig0.2 9)) rfl))
    | 10, _ => exact cv_at tC_10 (hP 10 _ (wz_get (e := cel (E.1, fun c => b + c, A, E.2.2.2.1, st) 10 (20, 10) (sig0.1 10) (sig0.2 10)) rfl))
    | 11, _ => exact cv_at tC_11 (hP 11 _ (wz_get (e := cel (E.1, fun c => b + c, A, E.2.2.2.1, st) 11 (20, 10) (sig0.1 11) (sig0.2 11)) rfl))
    | 12, _ => exact cv_at tC_12 (hP 12 _ (wz_get (e := cel (E.1, fun c => b + c, A, E.2.2.2.1, st) 12 (20, 100) (sig0.1 12) (sig0.2 12)) rfl))
    | 13, _ => exact cv_at tC_13 (hP 13 _ (wz_get (e := cel (E.1, fun c => b + c, A, E.2.2.2.1, st) 13 (1, 0) (sig0.1 13) (sig0.2 13)) rfl))
    | 14, _ => exact cv_at tC_14 (hP 14 _ (wz_get (e := cel (E.1, fun c => b + c, A, E.2.2.2.1, st) 14 (20, 10) (sig0.1 14) (sig0.2 14)) rfl))
    | 15, _ => exact cv_at tC_15 (hP 15 _ (wz_get (e := cel (E.1, fun c => b + c, A, E.2.2.2.1, st) 15 (20, 10) (sig0.1 15) (sig0.2 15)) rfl))
    | 16, _ => exact cv_at tC_16 (hP 16 _ (wz_get (e := cel (E.1, fun c => b + c, A, E.2.2.2.1, st) 16 (4, 0) (sig0.1 16) (sig0.2 16)) rfl))
    | 17, _ => exact cv_at tC_17 (hP 17 _ (wz_get (e := cel (E.1, fun c => b + c, A, E.2.2.2.1, st) 17 (20, 6) (sig0.1 17) (sig0.2 17)) rfl))
    | 18, _ => exact cv_at tC_18 (hP 18 _ (wz_get (e := cel (E.1, fun c => b + c, A, E.2.2.2.1, st) 18 (20, 6) (sig0.1 18) (sig0.2 18)) rfl))
    | 19, _ => exact cv_at tC_19 (hP 19 _ (wz_get (e := cel (E.1, fun c => b + c, A, E.2.2.2.1, st) 19 (20, 6) (sig0.1 19) (sig0.2 19)) rfl))
    | 20, _ => exact cv_at tC_20 (hP 20 _ (wz_get (e := cel (E.1, fun c => b + c, A, E.2.2.2.1, st) 20 (20, 6) (sig0.1 20) (sig0.2 20)) rfl))
    | 21, _ => exact cv_at tC_21 (hP 21 _ (wz_get (e := cel (E.1, fun c => b + c, A, E.2.2.2.1, st) 21 (8, 0) (sig0.1 21) (sig0.2 21)) rfl))
    | 22, _ => exact cv_at tC_22 (hP 22 _ (wz_get (e := cel (E.1, fun c => b + c, A, E.2.2.2.1, st) 22 (9, 0) (sig0.1 22) (sig0.2 22)) rfl))
    | 23, _ => exact cv_at tC_23 (hP 23 _ (wz_get (e := cel (E.1, fun c => b + c, A, E.2.2.2.1, st) 23 (21, 120) (sig0.1 23) (sig0.2 23)) rfl))
    | 24, _ => exact cv_at tC_24 (hP 24 _ (wz_get (e := cel (E.1, fun c => b + c, A, E.2.2.2.1, st) 24 (10, 0) (sig0.1 24) (sig0.2 24)) rfl))
    | 25, _ => exact cv_at tC_25 (hP 25 _ (wz_get (e := cel (E.1, fun c => b + c, A, E.2.2.2.1, st) 25 (20, 36) (sig0.1 25) (sig0.2 25)) rfl))
    | 26, _ => exact cv_at tC_26 (hP 26 _ (wz_get (e := cel (E.1, fun c => b + c, A, E.2.2.2.1, st) 26 (2, 0) (sig0.1 26) (sig0.2 26)) rfl))
    | 27, _ => exact cv_at tC_27 (hP 27 _ (wz_get (e := cel (E.1, fun c => b + c, A, E.2.2.2.1, st) 27 (7, 0) (sig0.1 27) (sig0.2 27)) rfl))
    | 28, _ => exact cv_at tC_28 (hP 28 _ (wz_get (e := cel (E.1, fun c => b + c, A, E.2.2.2.1, st) 28 (20, 10) (sig0.1 28) (sig0.2 28)) rfl))
    | 29, _ => exact cv_at tC_29 (hP 29 _ (wz_get (e := cel (E.1, fun c => b + c, A, E.2.2.2.1, st) 29 (20, 10) (sig0.1 29) (sig0.2 29)) rfl))
    | 30, _ => exact cv_at tC_30 (hP 30 _ (wz_get (e := cel (E.1, fun c => b + c, A, E.2.2.2.1, st) 30 (20, 10) (sig0.1 30) (sig0.2 30)) rfl))
    | 31, _ => exact cv_at tC_31 (hP 31 _ (wz_get (e := cel (E.1, fun c => b + c, A, E.2.2.2.1, st) 31 (20, 100) (sig0.1 31) (sig0.2 31)) rfl))
    | 32, _ => exact cv_at tC_32 (hP 32 _ (wz_get (e := cel (E.1, fun c => b + c, A, E.2.2.2.1, st) 32 (1, 0) (sig0.1 32) (sig0.2 32)) rfl))
    | 33, _ => exact cv_at tC_33 (hP 33 _ (wz_get (e := cel (E.1, fun c => b + c, A, E.2.2.2.1, st) 33 (20, 10) (sig0.1 33) (sig0.2 33)) rfl))
    | 34, _ => exact cv_at tC_34 (hP 34 _ (wz_get (e := cel (E.1, fun c => b + c, A, E.2.2.2.1, st) 34 (20, 10) (sig0.1 34) (sig0.2 34)) rfl))
    | 35, _ => exact cv_at tC_35 (hP 35 _ (wz_get (e := cel (E.1, fun c => b + c, A, E.2.2.2.1, st) 35 (4, 0) (sig0.1 35) (sig0.2 35)) rfl))
    | 36, _ => exact cv_at tC_36 (hP 36 _ (wz_get (e := cel (E.1, fun c => b + c, A, E.2.2.2.1, st) 36 (20, 6) (sig0.1 36) (sig0.2 36)) rfl))
    | 37, _ => exact cv_at tC_37 (hP 37 _ (wz_get (e := cel (E.1, fun c => b + c, A, E.2.2.2.1, st) 37 (20, 6) (sig0.1 37) (sig0.2 37)) rfl))
    | 38, _ => exact cv_at tC_38 (hP 38 _ (wz_get (e := cel (E.1, fun c => b + c, A, E.2.2.2.1, st) 38 (20, 6) (sig0.1 38) (sig0.2 38)) rfl))
    | 39, _ => exact cv_at tC_39 (hP 39 _ (wz_get (e := cel (E.1, fun c => b + c, A, E.2.2.2.1, st) 39 (20, 6) (sig0.1 39) (sig0.2 39)) rfl))
    | 40, _ => exact cv_at tC_40 (hP 40 _ (wz_get (e := cel (E.1, fun c => b + c, A, E.2.2.2.1, st) 40 (6, 0) (sig0.1 40) (sig0.2 40)) rfl))
    | 41, _ => exact cv_at tC_41 (hP 41 _ (wz_get (e := cel (E.1, fun c => b + c, A, E.2.2.2.1, st) 41 (5, 0) (sig0.1 41) (sig0.2 41)) rfl))
    | 42, _ => exact cv_at tC_42 (hP 42 _ (wz_get (e := cel (E.1, fun c => b + c, A, E.2.2.2.1, st) 42 (20, 4200) (sig0.1 42) (sig0.2 42)) rfl))
    | 43, _ => exact cv_at tC_43 (hP 43 _ (wz_get (e := cel (E.1, fun c => b + c, A, E.2.2.2.1, st) 43 (20, 4200) (sig0.1 43) (sig0.2 43)) rfl))
    | 44, _ => exact cv_at tC_44 (hP 44 _ (wz_get (e := cel (E.1, fun c => b + c, A, E.2.2.2.1, st) 44 (20, 21600) (sig0.1 44) (sig0.2 44)) rfl))
    | 45, _ => exact cv_at tC_45 (hP 45 _ (wz_get (e := cel (E.1, fun c => b + c, A, E.2.2.2.1, st) 45 (20, 21600) (sig0.1 45) (sig0.2 45)) rfl))
    | 46, _ => exact cv_at tC_46 (hP 46 _ (wz_get (e := cel (E.1, fun c => b + c, A, E.2.2.2.1, st) 46 (0, 0) (sig0.1 46) (sig0.2 46)) rfl))
    | 47, _ => exact cv_at tC_47 (hP 47 _ (wz_get (e := cel (E.1, fun c => b + c, A, E.2.2.2.1, st) 47 (20, 20) (sig0.1 47) (sig0.2 47)) rfl))
    | 48, _ => exact cv_at tC_48 (hP 48 _ (wz_get (e := cel (E.1, fun c => b + c, A, E.2.2.2.1, st) 48 (3, 0) (sig0.1 48) (sig0.2 48)) rfl))
    | 49, _ => exact cv_at tC_49 (hP 49 _ (wz_get (e := cel (E.1, fun c => b + c, A, E.2.2.2.1, st) 49 (20, 10) (sig0.1 49) (sig0.2 49)) rfl))
    | 50, _ => exact cv_at tC_50 (hP 50 _ (wz_get (e := cel (E.1, fun c => b + c, A, E.2.2.2.1, st) 50 (20, 10) (sig0.1 50) (sig0.2 50)) rfl))
    | 51, _ => exact cv_at tC_51 (hP 51 _ (wz_get (e := cel (E.1, fun c => b + c, A, E.2.2.2.1, st) 51 (20, 10) (sig0.1 51) (sig0.2 51)) rfl))
    | 52, _ => exact cv_at tC_52 (hP 52 _ (wz_get (e := cel (E.1, fun c => b + c, A, E.2.2.2.1, st) 52 (20, 120) (sig0.1 52) (sig0.2 52)) rfl))
    | 53, _ => exact cv_at tC_53 (hP 53 _ (wz_get (e := cel (E.1, fun c => b + c, A, E.2.2.2.1, st) 53 (20, 6) (sig0.1 53) (sig0.2 53)) rfl))
    | 54, _ => exact cv_at tC_54 (hP 54 _ (wz_get (e := cel (E.1, fun c => b + c, A, E.2.2.2.1, st) 54 (20, 4800) (sig0.1 54) (sig0.2 54)) rfl))
    | 55, _ => exact cv_at tC_55 (hP 55 _ (wz_get (e := cel (E.1, fun c => b + c, A, E.2.2.2.1, st) 55 (3, 0) (sig0.1 55) (sig0.2 55)) rfl))
    | 56, _ => exact cv_at tC_56 (hP 56 _ (wz_get (e := cel (E.1, fun c => b + c, A, E.2.2.2.1, st) 56 (20, 10) (sig0.1 56) (sig0.2 56)) rfl))
    | 57, _ => exact cv_at tC_57 (hP 57 _ (wz_get (e := cel (E.1, fun c => b + c, A, E.2.2.2.1, st) 57 (20, 10) (sig0.1 57) (sig0.2 57)) rfl))
    | 58, _ => exact cv_at tC_58 (hP 58 _ (wz_get (e := cel (E.1, fun c => b + c, A, E.2.2.2.1, st) 58 (20, 10) (sig0.1 58) (sig0.2 58)) rfl))
    | 59, _ => exact cv_at tC_59 (hP 59 _ (wz_get (e := cel (E.1, fun c => b + c, A, E.2.2.2.1, st) 59 (20, 120) (sig0.1 59) (sig0.2 59)) rfl))
    | 60, _ => exact cv_at tC_60 (hP 60 _ (wz_get (e := cel (E.1, fun c => b + c, A, E.2.2.2.1, st) 60 (20, 6) (sig0.1 60) (sig0.2 60)) rfl))
    | 61, _ => exact cv_at tC_61 (hP 61 _ (wz_get (e := cel (E.1, fun c => b + c, A, E.2.2.2.1, st) 61 (20, 4800) (sig0.1 61) (sig0.2 61)) rfl))
    | 62, _ => exact cv_at tC_62 (hP 62 _ (wz_get (e := cel (E.1, fun c => b + c, A, E.2.2.2.1, st) 62 (3, 0) (sig0.1 62) (sig0.2 62)) rfl))
    | 63, _ => exact cv_at tC_63 (hP 63 _ (wz_get (e := cel (E.1, fun c => b + c, A, E.2.2.2.1, st) 63 (20, 10) (sig0.1 63) (sig0.2 63)) rfl))
    | 64, _ => exact cv_at tC_64 (hP 64 _ (wz_get (e := cel (E.1, fun c => b + c, A, E.2.2.2.1, st) 64 (20, 10) (sig0.1 64) (sig0.2 64)) rfl))
    | 65, _ => exact cv_at tC_65 (hP 65 _ (wz_get (e := cel (E.1, fun c => b + c, A, E.2.2.2.1, st) 65 (20, 10) (sig0.1 65) (sig0.2 65)) rfl))
    | 66, _ => exact cv_at tC_66 (hP 66 _ (wz_get (e := cel (E.1, fun c => b + c, A, E.2.2.2.1, st) 66 (20, 120) (sig0.1 66) (sig0.2 66)) rfl))
    | 67, _ => exact cv_at tC_67 (hP 67 _ (wz_get (e := cel (E.1, fun c => b + c, A, E.2.2.2.1, st) 67 (20, 6) (sig0.1 67) (sig0.2 67)) rfl))
    | 68, _ => exact cv_at tC_68 (hP 68 _ (wz_get (e := cel (E.1, fun c => b + c, A, E.2.2.2.1, st) 68 (20, 4800) (sig0.1 68) (sig0.2 68)) rfl))
    | 69, _ => exact cv_at tC_69 (hP 69 _ (wz_get (e := cel (E.1, fun c => b + c, A, E.2.2.2.1, st) 69 (3, 0) (sig0.1 69) (sig0.2 69)) rfl))
    | 70, _ => exact cv_at tC_70 (hP 70 _ (wz_get (e := cel (E.1, fun c => b + c, A, E.2.2.2.1, st) 70 (20, 10) (sig0.1 70) (sig0.2 70)) rfl))
    | 71, _ => exact cv_at tC_71 (hP 71 _ (wz_get (e := cel (E.1, fun c => b + c, A, E.2.2.2.1, st) 71 (20, 10) (sig0.1 71) (sig0.2 71)) rfl))
    | 72, _ => exact cv_at tC_72 (hP 72 _ (wz_get (e := cel (E.1, fun c => b + c, A, E.2.2.2.1, st) 72 (20, 10) (sig0.1 72) (sig0.2 72)) rfl))
    | 73, _ => exact cv_at tC_73 (hP 73 _ (wz_get (e := cel (E.1, fun c => b + c, A, E.2.2.2.1, st) 73 (20, 120) (sig0.1 73) (sig0.2 73)) rfl))
    | 74, _ => exact cv_at tC_74 (hP 74 _ (wz_get (e := cel (E.1, fun c => b + c, A, E.2.2.2.1, st) 74 (20, 6) (sig0.1 74) (sig0.2 74)) rfl))
    | 75, _ => exact cv_at tC_75 (hP 75 _ (wz_get (e := cel (E.1, fun c => b + c, A, E.2.2.2.1, st) 75 (20, 4800) (sig0.1 75) (sig0.2 75)) rfl))
    | 76, _ => exact cv_at tC_76 (hP 76 _ (wz_get (e := cel (E.1, fun c => b + c, A, E.2.2.2.1, st) 76 (3, 0) (sig0.1 76) (sig0.2 76)) rfl))
    | 77, _ => exact cv_at tC_77 (hP 77 _ (wz_get (e := cel (E.1, fun c => b + c, A, E.2.2.2.1, st) 77 (20, 10) (sig0.1 77) (sig0.2 77)) rfl))
    | 78, _ => exact cv_at tC_78 (hP 78 _ (wz_get (e := cel (E.1, fun c => b + c, A, E.2.2.2.1, st) 78 (20, 10) (sig0.1 78) (sig0.2 78)) rfl))
    | 79, _ => exact cv_at tC_79 (hP 79 _ (wz_get (e := cel (E.1, fun c => b + c, A, E.2.2.2.1, st) 79 (20, 10) (sig0.1 79) (sig0.2 79)) rfl))
    | 80, _ => exact cv_at tC_80 (hP 80 _ (wz_get (e := cel (E.1, fun c => b + c, A, E.2.2.2.1, st) 80 (20, 120) (sig0.1 80) (sig0.2 80)) rfl))
    | 81, _ => exact cv_at tC_81 (hP 81 _ (wz_get (e := cel (E.1, fun c => b + c, A, E.2.2.2.1, st) 81 (20, 6) (sig0.1 81) (sig0.2 81)) rfl))
    | 82, _ => exact cv_at tC_82 (hP 82 _ (wz_get (e := cel (E.1, fun c => b + c, A, E.2.2.2.1, st) 82 (20, 4800) (sig0.1 82) (sig0.2 82)) rfl))
    | k + 83, h => exact absurd h (by omega)
  intro k q hq
  have hl := (List.getElem?_eq_some_iff.mp hq).1
  rw [wd_len] at hl
  exact key k hl q hq
set_option maxHeartbeats 4000000 in
set_option maxRecDepth 100000 in
theorem conv_M {E : EV} {b : Nat} {H : Heap} {A : Nat → Prop} {st : Nat → Nat} (hP : va_P E.1 vwCl (wz b (es_X12 E b)) H) : va_P E.1 vwCl (wd TM (E.1, fun c => b + c, A, E.2.2.2.1, st) mu0) H := by
  have key : ∀ k, k < 16 → ∀ q, (wd TM (E.1, fun c => b + c, A, E.2.2.2.1, st) mu0)[k]? = some q → va_at E.1 vwCl q H := by
    intro k hk
    match k, hk with
    | 0, _ => exact cv_at tM_0 (hP 0 _ (wz_get (e := cel (E.1, fun c => b + c, A, E.2.2.2.1, st) 0 (12, 0) (mu0.1 0) (mu0.2 0)) rfl))
    | 1, _ => exact cv_at tM_1 (hP 1 _ (wz_get (e := cel (E.1, fun c => b + c, A, E.2.2.2.1, st) 1 (20, 1055) (mu0.1 1) (mu0.2 1)) rfl))
    | 2, _ => exact cv_at tM_2 (hP 2 _ (wz_get (e := cel (E.1, fun c => b + c, A, E.2.2.2.1, st) 2 (20, 1055) (mu0.1 2) (mu0.2 2)) rfl))
    | 3, _ => exact cv_at tM_3 (hP 3 _ (wz_get (e := cel (E.1, fun c => b + c, A, E.2.2.2.1, st) 3 (20, 6) (mu0.1 3) (mu0.2 3)) rfl))
    | 4, _ => exact cv_at tM_4 (hP 4 _ (wz_get (e := cel (E.1, fun c => b + c, A, E.2.2.2.1, st) 4 (23, 64) (mu0.1 4) (mu0.2 4)) rfl))
    | 5, _ => exact cv_at tM_5 (hP 5 _ (wz_get (e := cel (E.1, fun c => b + c, A, E.2.2.2.1, st) 5 (20, 4800) (mu0.1 5) (mu0.2 5)) rfl))
    | 6, _ => exact cv_at tM_6 (hP 6 _ (wz_get (e := cel (E.1, fun c => b + c, A, E.2.2.2.1, st) 6 (20, 4800) (mu0.1 6) (mu0.2 6)) rfl))
    | 7, _ => exact cv_at tM_7 (hP 7 _ (wz_get (e := cel (E.1, fun c => b + c, A, E.2.2.2.1, st) 7 (20, 4800) (mu0.1 7) (mu0.2 7)) rfl))
    | 8, _ => exact cv_at tM_8 (hP 8 _ (wz_get (e := cel (E.1, fun c => b + c, A, E.2.2.2.1, st) 8 (20, 4800) (mu0.1 8) (mu0.2 8)) rfl))
    | 9, _ => exact cv_at tM_9 (hP 9 _ (wz_get (e := cel (E.1, fun c => b + c, A, E.2.2.2.1, st) 9 (23, 4800) (mu0.1 9) (mu0.2 9)) rfl))
    | 10, _ => exact cv_at tM_10 (hP 10 _ (wz_get (e := cel (E.1, fun c => b + c, A, E.2.2.2.1, st) 10 (20, 4200) (mu0.1 10) (mu0.2 10)) rfl))
    | 11, _ => exact cv_at tM_11 (hP 11 _ (wz_get (e := cel (E.1, fun c => b + c, A, E.2.2.2.1, st) 11 (20, 21600) (mu0.1 11) (mu0.2 11)) rfl))
    | 12, _ => exact cv_at tM_12 (hP 12 _ (wz_get (e := cel (E.1, fun c => b + c, A, E.2.2.2.1, st) 12 (22, 4200) (mu0.1 12) (mu0.2 12)) rfl))
    | 13, _ => exact cv_at tM_13 (hP 13 _ (wz_get (e := cel (E.1, fun c => b + c, A, E.2.2.2.1, st) 13 (22, 21600) (mu0.1 13) (mu0.2 13)) rfl))
    | 14, _ => exact cv_at tM_14 (hP 14 _ (wz_get (e := cel (E.1, fun c => b + c, A, E.2.2.2.1, st) 14 (20, 72) (mu0.1 14) (mu0.2 14)) rfl))
    | 15, _ => exact cv_at tM_15 (hP 15 _ (wz_get (e := cel (E.1, fun c => b + c, A, E.2.2.2.1, st) 15 (20, 20) (mu0.1 15) (mu0.2 15)) rfl))
    | k + 16, h => exact absurd h (by omega)
  intro k q hq
  have hl := (List.getElem?_eq_some_iff.mp hq).1
  rw [wd_len] at hl
  exact key k hl q hq
theorem law_K {args : Array Value} {s : State} (hts : ∀ w ∈ lw_gd, w.before args s = true) (htl : ∀ w ∈ lw_tbl, w.before args s = true) : ∃ (D : va_G) (ca : Nat → ClassId), ∀ (ad : Nat → Nat) (A : Nat → Prop) (st : Nat → Nat), va_K D vwCl (atys (D, ad, A, ca, st)) s := by
  obtain ⟨c0, i0, hk0⟩ := u_known (C := RX0) (T := TX0) (N := 5) (n := 5) hts inX0 (hts _ kw_339)
  obtain ⟨c1, i1, hk1⟩ := u_known (C := RX1) (T := TX1) (N := 3) (n := 3) hts inX1 (hts _ kw_202)
  obtain ⟨c2, i2, hk2⟩ := u_known (C := RX2) (T := TX2) (N := 6) (n := 6) hts inX2 (hts _ kw_141)
  obtain ⟨c3, i3, hk3⟩ := u_known (C := RX3) (T := TX3) (N := 11) (n := 11) hts inX3 (hts _ kw_362)
  obtain ⟨c4, i4, hk4⟩ := u_known (C := RX4) (T := TX4) (N := 5) (n := 5) hts inX4 (hts _ kw_219)
  obtain ⟨c5, i5, hk5⟩ := u_known (C := RX5) (T := TX5) (N := 15) (n := 15) hts inX5 (hts _ kw_287)
  obtain ⟨c6, i6, hk6⟩ := u_known (C := RX6) (T := TX6) (N := 3) (n := 3) hts inX6 (hts _ kw_271)
  obtain ⟨c7, i7, hk7⟩ := u_known (C := RX7) (T := TX7) (N := 5) (n := 5) hts inX7 (hts _ kw_172)
  obtain ⟨c8, i8, hk8⟩ := u_known (C := RX8) (T := TX8) (N := 7) (n := 7) hts inX8 (hts _ kw_108)
  obtain ⟨c9, i9, hk9⟩ := u_known (C := RX9) (T := TX9) (N := 2) (n := 2) hts inX9 (hts _ kw_114)
  obtain ⟨c10, i10, hk10⟩ := u_known (C := RX10) (T := TX10) (N := 1) (n := 1) hts inX10 (hts _ kw_130)
  obtain ⟨c11, i11, hk11⟩ := u_known (C := RX11) (T := TX11) (N := 7) (n := 7) hts inX11 (hts _ kw_98)
  obtain ⟨c12, i12, hk12⟩ := u_known (C := RX12) (T := TX12) (N := 39) (n := 39) hts inX12 (hts _ kw_1014)
  obtain ⟨a_int, k_int, m_int, f_int, g_int, h_int⟩ := Cond.arrayClass_spec (hts _ kw_139)
  obtain ⟨a_byte, k_byte, m_byte, f_byte, g_byte, h_byte⟩ := Cond.arrayClass_spec (hts _ kw_128)
  obtain ⟨a_long, k_long, m_long, f_long, g_long, h_long⟩ := Cond.arrayClass_spec (hts _ kw_1137)
  obtain ⟨a_boolean, k_boolean, m_boolean, f_boolean, g_boolean, h_boolean⟩ := Cond.arrayClass_spec (hts _ kw_1136)
  obtain ⟨comp, ao, ko, o1, o2, o3, o4, o5⟩ := Cond.arrayOver_spec (n := RX3) (htl _ (List.mem_of_getElem? (i := 106) (by decide +kernel)))
  refine ⟨(fun k => if k = 0 then c0 else if k = 1 then c1 else if k = 2 then c2 else if k = 3 then c3 else if k = 4 then c4 else if k = 5 then c5 else if k = 6 then c6 else if k = 7 then c7 else if k = 8 then c8 else if k = 9 then c9 else if k = 10 then c10 else if k = 11 then c11 else c12, fun k => if k = 0 then i0 else if k = 1 then i1 else if k = 2 then i2 else if k = 3 then i3 else if k = 4 then i4 else if k = 5 then i5 else if k = 6 then i6 else if k = 7 then i7 else if k = 8 then i8 else if k = 9 then i9 else if k = 10 then i10 else if k = 11 then i11 else i12), fun k => if k = 0 then a_int else if k = 1 then a_byte else if k = 2 then a_long else if k = 3 then a_boolean else ao, fun ad A st => ⟨fun c q hq => ?_, fun k q hq => ?_⟩⟩
  · match c, hq with
    | 0, hq => cases hq; exact hk0
    | 1, hq => cases hq; exact hk1
    | 2, hq => cases hq; exact hk2
    | 3, hq => cases hq; exact hk3
    | 4, hq => cases hq; exact hk4
    | 5, hq => cases hq; exact hk5
    | 6, hq => cases hq; exact hk6
    | 7, hq => cases hq; exact hk7
    | 8, hq => cases hq; exact hk8
    | 9, hq => cases hq; exact hk9
    | 10, hq => cases hq; exact hk10
    | 11, hq => cases hq; exact hk11
    | 12, hq => cases hq; exact hk12
    | c + 13, hq => simp [vwCl] at hq
  · match k, hq with
    | 0, hq => cases hq; exact ⟨fun n z => ⟨fun k h => (by cases h), k_int, g_int, m_int, h_int⟩, f_int⟩
    | 1, hq => cases hq; exact ⟨fun n z => ⟨fun k h => (by cases h), k_byte, g_byte, m_byte, h_byte⟩, f_byte⟩
    | 2, hq => cases hq; exact ⟨fun n z => ⟨fun k h => (by cases h), k_long, g_long, m_long, h_long⟩, f_long⟩
    | 3, hq => cases hq; exact ⟨fun n z => ⟨fun k h => (by cases h), k_boolean, g_boolean, m_boolean, h_boolean⟩, f_boolean⟩
    | 4, hq => cases hq; exact ⟨fun n z => ⟨fun k h => (by cases h), ko, o3, comp, o4⟩, ko, comp, o3, o4, o1, o5⟩
    | k + 5, hq => simp [atys] at hq
theorem law_N {args : Array Value} {s : State} (htl : ∀ w ∈ lw_tbl, w.before args s = true) : Nf s := by
  refine ⟨va_AO.of (htl _ (List.mem_of_getElem? (i := 106) (by decide +kernel))), fun q hq => ?_⟩
  simp only [nestL, List.mem_cons, List.not_mem_nil, or_false] at hq
  rcases hq with rfl | rfl | rfl | rfl | rfl | rfl | rfl | rfl | rfl | rfl
  · exact va_Nw.of rfl (htl _ (List.mem_of_getElem? (i := 109) (by decide +kernel)))
  · exact va_Nw.of rfl (htl _ (List.mem_of_getElem? (i := 115) (by decide +kernel)))
  · exact va_Nw.of rfl (htl _ (List.mem_of_getElem? (i := 142) (by decide +kernel)))
  · exact va_Nw.of rfl (htl _ (List.mem_of_getElem? (i := 173) (by decide +kernel)))
  · exact va_Nw.of rfl (htl _ (List.mem_of_getElem? (i := 203) (by decide +kernel)))
  · exact va_Nw.of rfl (htl _ (List.mem_of_getElem? (i := 220) (by decide +kernel)))
  · exact va_Nw.of rfl (htl _ (List.mem_of_getElem? (i := 272) (by decide +kernel)))
  · exact va_Nw.of rfl (htl _ (List.mem_of_getElem? (i := 288) (by decide +kernel)))
  · exact va_Nw.of rfl (htl _ (List.mem_of_getElem? (i := 340) (by decide +kernel)))
  · exact va_Nw.of rfl (htl _ (List.mem_of_getElem? (i := 363) (by decide +kernel)))
