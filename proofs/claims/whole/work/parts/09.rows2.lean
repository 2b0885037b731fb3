def irm (x y : Int32) : Int32 := x - x / y * y
def imx (x y : Int32) : Int32 := if x < y then y else x
def imn (x y : Int32) : Int32 := if y < x then y else x
/-- a row whose first n are bytes -/
def by8 (f : Nat → Int32) (n : Nat) : Bool := decide (∀ i, i < n → (f i).toInt8.toInt32 = f i)
/-- a text's byte -/
def chS (w k : Nat) : Int32 := (bytS.getD w []).getD k 0
theorem lk_eq {x : Int32} {k : Int} (q : k = x.toInt) : x = Int32.ofInt k := by rw [q, Int32.ofInt_toInt]
theorem tsw_out {x : Int32} {lo hi : Int} (h : ∀ k : Int, lo ≤ k → k ≤ hi → ¬ x = Int32.ofInt k) : x.toInt < lo ∨ hi < x.toInt := by
  rcases Int.lt_or_le x.toInt lo with h1 | h1
  · exact Or.inl h1
  · rcases Int.lt_or_le hi x.toInt with h2 | h2
    · exact Or.inr h2
    · exact absurd (Int32.ofInt_toInt x).symm (h _ h1 h2)
theorem nI_in_of {k n : Nat} (h : k < n) (h2 : k < 2 ^ 31) : ¬ (nI k < 0 ∨ n ≤ (nI k).toNatClampNeg) := by
  rw [nI_clamp h2]
  rintro (q | q)
  · exact nI_pos h2 q
  · omega
section ROWS2
variable {p : Program} {l : Launch} {e : Env} {R : Room} {s : State} {m : MethodId} {args : Array Value} {below : List Frame} {meth : Method} {c : Code} {H : Heap} {locs : List Loc} {cells slots : Nat} {Q : State → Prop}
variable {pc : Nat} {ls : Array Slot} {rest : List Value} {T : List (Nat × Nat)} {E : EV} {σ τ : Mem} {cc : ByteArray} {nL : Nat} {ret : Option FieldType} {own : String}
theorem q_irem (hexec : p.tables.exec = Jvm.exec) (hb : c.code = cc) {x y : Int32} (hdg : decode cc pc = .ok (.irem, 1)) (hne : ¬ y = 0)
    (k : W p l e R s m args below meth c H locs cells slots Q (F0 m (pc + 1) ls (.int (irm x y) :: rest))) : W p l e R s m args below meth c H locs cells slots Q (F0 m pc ls (.int y :: .int x :: rest)) := lv_irem hexec hb hdg hne k
theorem q_max (C : Cx E p s m args meth c cc nL ret own) (hz : ls.size = nL) {index : Nat} (hlink : Cond.methodLink own index Lib.Math.max.name ∈ lw_gd) (h1 : 1 ≤ R.frames) (h2 : 8 + 13 ≤ R.locals) (hr8 : (rest.map fun v => v.category).sum ≤ 8) (hc : cells ≤ R.cells ∧ slots ≤ R.slots) {x y : Int32} (hdg : decode cc pc = .ok (.invokestatic index, 3))
    (kk : W p l e R s m args below meth c H locs cells slots Q (F0 m (pc + 3) ls (.int (imx x y) :: rest))) : W p l e R s m args below meth c H locs cells slots Q (F0 m pc ls (.int y :: .int x :: rest)) := by
  obtain ⟨hx, hb, hml, hown, hts, hK, hSt, hlk, hr⟩ := C
  exact va_mmax hx hb (hml.trans hz.symm) hown (hts _ hlink) (hts _ kw_491) (hts _ kw_92) (hts _ kw_492) h1 (Nat.le_trans (Nat.add_le_add_right hr8 13) h2) hc.1 hc.2 hdg kk
theorem q_min (C : Cx E p s m args meth c cc nL ret own) (hz : ls.size = nL) {index : Nat} (hlink : Cond.methodLink own index Lib.Math.min.name ∈ lw_gd) (h1 : 1 ≤ R.frames) (h2 : 8 + 13 ≤ R.locals) (hr8 : (rest.map fun v => v.category).sum ≤ 8) (hc : cells ≤ R.cells ∧ slots ≤ R.slots) {x y : Int32} (hdg : decode cc pc = .ok (.invokestatic index, 3))
    (kk : W p l e R s m args below meth c H locs cells slots Q (F0 m (pc + 3) ls (.int (imn x y) :: rest))) : W p l e R s m args below meth c H locs cells slots Q (F0 m pc ls (.int y :: .int x :: rest)) := by
  obtain ⟨hx, hb, hml, hown, hts, hK, hSt, hlk, hr⟩ := C
  exact va_mmin hx hb (hml.trans hz.symm) hown (hts _ hlink) (hts _ kw_494) (hts _ kw_92) (hts _ kw_495) h1 (Nat.le_trans (Nat.add_le_add_right hr8 13) h2) hc.1 hc.2 hdg kk
/-- System.arraycopy from the first on: ints, bytes -/
theorem q_copy (C : Cx E p s m args meth c cc nL ret own) (hw : Wd T E σ s H locs) (hz : ls.size = nL) {index : Nat} (hlink : Cond.methodLink own index arraycopyName ∈ lw_gd) (h1 : 1 ≤ R.frames) (h2 : 8 + (nativeFrameWords "java/lang/System" "arraycopy" 5 + 11) ≤ R.locals) (hr8 : (rest.map fun v => v.category).sum ≤ 8)
    {a b n : Nat} (hTa : T[a]? = some (20, n)) (hTb : T[b]? = some (20, n)) {x : Int32} (hn : nI n = x) (hn2 : n < 2 ^ 31) (eτ : τ = cpI σ a b n) (hdg : decode cc pc = .ok (.invokestatic index, 3))
    (kk : ∀ (H1 : Heap) (locs1 : List Loc), Wd T E τ s H1 locs1 → W p l e R s m args below meth c H1 locs1 cells slots Q (F0 m (pc + 3) ls rest)) : W p l e R s m args below meth c H locs cells slots Q (F0 m pc ls (.int x :: .int 0 :: .ref (E.2.1 b) :: .int 0 :: .ref (E.2.1 a) :: rest)) := by
  obtain ⟨hx, hb, hml, hown, hts, hK, hSt, hlk, hr⟩ := C
  obtain ⟨hP, hD, hS⟩ := hw
  subst eτ
  subst hn
  have e0 : (0 : Int32).toNatClampNeg = 0 := by decide +kernel
  have en : (nI n).toNatClampNeg = n := nI_clamp hn2
  refine va_copyi hx hb (hml.trans hz.symm) hown (hts _ hlink) (hts _ kw_980) (hts _ kw_979) (hts _ kw_96) hK hP hD hS a b 0 0 (ty := .int) (wd_at E σ hTa) (wd_at E σ hTb) rfl rfl rfl (by decide) (by decide) (nI_pos hn2) (by rw [e0, en]; omega) (by rw [e0, en]; omega) (fun i _ => rfl) h1 (Nat.le_trans (Nat.add_le_add_right hr8 _) h2) hdg (fun H1 locs1 hP1 hD1 hS1 => ?_)
  rw [e0, en, wd_set E σ (cpI σ a b n) hTb _ (by rw [cpI_row]; rfl) (cpI_off _ _ _ _)] at hP1 hD1
  exact kk H1 locs1 ⟨hP1, hD1, hS1⟩
theorem q_copyb (C : Cx E p s m args meth c cc nL ret own) (hw : Wd T E σ s H locs) (hz : ls.size = nL) {index : Nat} (hlink : Cond.methodLink own index arraycopyName ∈ lw_gd) (h1 : 1 ≤ R.frames) (h2 : 8 + (nativeFrameWords "java/lang/System" "arraycopy" 5 + 11) ≤ R.locals) (hr8 : (rest.map fun v => v.category).sum ≤ 8)
    {a b n : Nat} (hTa : T[a]? = some (21, n)) (hTb : T[b]? = some (21, n)) {x : Int32} (hn : nI n = x) (hn2 : n < 2 ^ 31) (h8 : by8 (σ.1 a) n = true) (eτ : τ = cpI σ a b n) (hdg : decode cc pc = .ok (.invokestatic index, 3))
    (kk : ∀ (H1 : Heap) (locs1 : List Loc), Wd T E τ s H1 locs1 → W p l e R s m args below meth c H1 locs1 cells slots Q (F0 m (pc + 3) ls rest)) : W p l e R s m args below meth c H locs cells slots Q (F0 m pc ls (.int x :: .int 0 :: .ref (E.2.1 b) :: .int 0 :: .ref (E.2.1 a) :: rest)) := by
  obtain ⟨hx, hb, hml, hown, hts, hK, hSt, hlk, hr⟩ := C
  obtain ⟨hP, hD, hS⟩ := hw
  subst eτ
  subst hn
  have h8 := of_decide_eq_true h8
  have e0 : (0 : Int32).toNatClampNeg = 0 := by decide +kernel
  have en : (nI n).toNatClampNeg = n := nI_clamp hn2
  refine va_copyi hx hb (hml.trans hz.symm) hown (hts _ hlink) (hts _ kw_980) (hts _ kw_979) (hts _ kw_96) hK hP hD hS a b 1 1 (ty := .byte) (wd_at E σ hTa) (wd_at E σ hTb) rfl rfl rfl (by decide) (by decide) (nI_pos hn2) (by rw [e0, en]; omega) (by rw [e0, en]; omega) (fun i hi => ?_) h1 (Nat.le_trans (Nat.add_le_add_right hr8 _) h2) hdg (fun H1 locs1 hP1 hD1 hS1 => ?_)
  · rw [e0, Nat.zero_add, ← h8 i (by rw [en] at hi; exact hi)]
    exact pk_fb _
  rw [e0, en, wd_set E σ (cpI σ a b n) hTb _ (by rw [cpI_row]; rfl) (cpI_off _ _ _ _)] at hP1 hD1
  exact kk H1 locs1 ⟨hP1, hD1, hS1⟩
/-- what is never written: two tables, a static, texts -/
theorem q_tab0 (C : Cx E p s m args meth c cc nL ret own) (hw : Wd T E σ s H locs) {index : Nat} (hlink : Cond.fieldLink own index RX7 "ABOVE" "[I" ∈ lw_gd) (hdg : decode cc pc = .ok (.getstatic index, 3))
    (kk : W p l e R s m args below meth c H locs cells slots Q (F0 m (pc + 3) ls (.ref (E.2.2.2.2 0) :: rest))) : W p l e R s m args below meth c H locs cells slots Q (F0 m pc ls rest) := by
  obtain ⟨hx, hb, hml, hown, hts, hK, hSt, hlk, hr⟩ := C
  exact va_gets hx hb hSt.1 hw.2.2 hown (hts _ hlink) (fun _ h => h) hdg kk
theorem q_tab1 (C : Cx E p s m args meth c cc nL ret own) (hw : Wd T E σ s H locs) {index : Nat} (hlink : Cond.fieldLink own index RX0 "BODIES" "[I" ∈ lw_gd) (hdg : decode cc pc = .ok (.getstatic index, 3))
    (kk : W p l e R s m args below meth c H locs cells slots Q (F0 m (pc + 3) ls (.ref (E.2.2.2.2 1) :: rest))) : W p l e R s m args below meth c H locs cells slots Q (F0 m pc ls rest) := by
  obtain ⟨hx, hb, hml, hown, hts, hK, hSt, hlk, hr⟩ := C
  exact va_gets hx hb hSt.2.2.1 hw.2.2 hown (hts _ hlink) (fun _ h => h) hdg kk
theorem q_compact (C : Cx E p s m args meth c cc nL ret own) (hw : Wd T E σ s H locs) {index : Nat} (hlink : Cond.fieldLink own index "java/lang/String" "COMPACT_STRINGS" "Z" ∈ lw_gd) (hdg : decode cc pc = .ok (.getstatic index, 3))
    (kk : W p l e R s m args below meth c H locs cells slots Q (F0 m (pc + 3) ls (.int 1 :: rest))) : W p l e R s m args below meth c H locs cells slots Q (F0 m pc ls rest) := by
  obtain ⟨hx, hb, hml, hown, hts, hK, hSt, hlk, hr⟩ := C
  exact va_gets hx hb hSt.2.2.2.2.1 hw.2.2 hown (hts _ hlink) (fun _ h => h) hdg kk
theorem q_formatter (C : Cx E p s m args meth c cc nL ret own) (hw : Wd T E σ s H locs) {index : Nat} (hlink : Cond.fieldLink own index "jdk/internal/util/Preconditions" "SIOOBE_FORMATTER" "Ljava/util/function/BiFunction;" ∈ lw_gd) (hdg : decode cc pc = .ok (.getstatic index, 3))
    (kk : ∀ v : Value, (v = .null ∨ ∃ t, v = .ref t) → W p l e R s m args below meth c H locs cells slots Q (F0 m (pc + 3) ls (v :: rest))) : W p l e R s m args below meth c H locs cells slots Q (F0 m pc ls rest) := by
  obtain ⟨hx, hb, hml, hown, hts, hK, hSt, hlk, hr⟩ := C
  rcases hSt.2.2.2.2.2.1 with hZ | ⟨t, hZ⟩
  · exact va_gets hx hb hZ hw.2.2 hown (hts _ hlink) (fun _ h => h) hdg (kk _ (Or.inl rfl))
  · exact va_gets hx hb hZ hw.2.2 hown (hts _ hlink) (fun _ h => h) hdg (kk _ (Or.inr ⟨t, rfl⟩))
theorem q_tld0 (C : Cx E p s m args meth c cc nL ret own) (hw : Wd T E σ s H locs) {i : Int32} (hin : ib i 7 = true) (hdg : decode cc pc = .ok (.iaload, 1))
    (kk : W p l e R s m args below meth c H locs cells slots Q (F0 m (pc + 1) ls (.int (tAbove.getD i.toNatClampNeg 0) :: rest))) : W p l e R s m args below meth c H locs cells slots Q (F0 m pc ls (.int i :: .ref (E.2.2.2.2 0) :: rest)) := by
  obtain ⟨hx, hb, hml, hown, hts, hK, hSt, hlk, hr⟩ := C
  exact va_ti hx hb hSt.2.1 hw.2.2 (ib_at hin) rfl hdg kk
theorem q_tld1 (C : Cx E p s m args meth c cc nL ret own) (hw : Wd T E σ s H locs) {i : Int32} (hin : ib i 21 = true) (hdg : decode cc pc = .ok (.iaload, 1))
    (kk : W p l e R s m args below meth c H locs cells slots Q (F0 m (pc + 1) ls (.int (tBodies.getD i.toNatClampNeg 0) :: rest))) : W p l e R s m args below meth c H locs cells slots Q (F0 m pc ls (.int i :: .ref (E.2.2.2.2 1) :: rest)) := by
  obtain ⟨hx, hb, hml, hown, hts, hK, hSt, hlk, hr⟩ := C
  exact va_ti hx hb hSt.2.2.2.1 hw.2.2 (ib_at hin) rfl hdg kk
theorem q_tlen1 (C : Cx E p s m args meth c cc nL ret own) (hw : Wd T E σ s H locs) (hdg : decode cc pc = .ok (.arraylength, 1))
    (kk : W p l e R s m args below meth c H locs cells slots Q (F0 m (pc + 1) ls (.int 21 :: rest))) : W p l e R s m args below meth c H locs cells slots Q (F0 m pc ls (.ref (E.2.2.2.2 1) :: rest)) := by
  obtain ⟨hx, hb, hml, hown, hts, hK, hSt, hlk, hr⟩ := C
  exact va_tlen hx hb hSt.2.2.2.1 hw.2.2 rfl hdg kk
theorem q_sval (C : Cx E p s m args meth c cc nL ret own) (hw : Wd T E σ s H locs) {w index : Nat} (h11 : w < 11) (hlink : Cond.fieldLink own index "java/lang/String" "value" "[B" ∈ lw_gd) (hdg : decode cc pc = .ok (.getfield index, 3))
    (kk : W p l e R s m args below meth c H locs cells slots Q (F0 m (pc + 3) ls (.ref (E.2.2.2.2 (20 + w)) :: rest))) : W p l e R s m args below meth c H locs cells slots Q (F0 m pc ls (.ref (E.2.2.2.2 (2 + w)) :: rest)) := by
  obtain ⟨hx, hb, hml, hown, hts, hK, hSt, hlk, hr⟩ := C
  exact vk_getf hx hb (hSt.2.2.2.2.2.2.1.1 w h11).2.2.1 hw.2.2 hown (hts _ hlink) (fun _ h => h) hdg kk
theorem q_scod (C : Cx E p s m args meth c cc nL ret own) (hw : Wd T E σ s H locs) {w index : Nat} (h11 : w < 11) (hlink : Cond.fieldLink own index "java/lang/String" "coder" "B" ∈ lw_gd) (hdg : decode cc pc = .ok (.getfield index, 3))
    (kk : W p l e R s m args below meth c H locs cells slots Q (F0 m (pc + 3) ls (.int 0 :: rest))) : W p l e R s m args below meth c H locs cells slots Q (F0 m pc ls (.ref (E.2.2.2.2 (2 + w)) :: rest)) := by
  obtain ⟨hx, hb, hml, hown, hts, hK, hSt, hlk, hr⟩ := C
  exact vk_getf hx hb (hSt.2.2.2.2.2.2.1.1 w h11).2.1 hw.2.2 hown (hts _ hlink) (fun _ h => h) hdg kk
theorem q_slen (C : Cx E p s m args meth c cc nL ret own) (hw : Wd T E σ s H locs) {w : Nat} (h11 : w < 11) (hdg : decode cc pc = .ok (.arraylength, 1))
    (kk : W p l e R s m args below meth c H locs cells slots Q (F0 m (pc + 1) ls (.int (nI (lenS.getD w 0)) :: rest))) : W p l e R s m args below meth c H locs cells slots Q (F0 m pc ls (.ref (E.2.2.2.2 (20 + w)) :: rest)) := by
  obtain ⟨hx, hb, hml, hown, hts, hK, hSt, hlk, hr⟩ := C
  exact va_tlen hx hb (hSt.2.2.2.2.2.2.1.1 w h11).2.2.2 hw.2.2 rfl hdg kk
theorem q_sbld (C : Cx E p s m args meth c cc nL ret own) (hw : Wd T E σ s H locs) {w : Nat} (h11 : w < 11) {i : Int32} (hin : ib i (lenS.getD w 0) = true) (hdg : decode cc pc = .ok (.baload, 1))
    (kk : W p l e R s m args below meth c H locs cells slots Q (F0 m (pc + 1) ls (.int (chS w i.toNatClampNeg) :: rest))) : W p l e R s m args below meth c H locs cells slots Q (F0 m pc ls (.int i :: .ref (E.2.2.2.2 (20 + w)) :: rest)) := by
  obtain ⟨hx, hb, hml, hown, hts, hK, hSt, hlk, hr⟩ := C
  exact va_tb hx hb (hSt.2.2.2.2.2.2.1.1 w h11).2.2.2 hw.2.2 (ib_at hin) rfl hdg kk
theorem q_ldcS (C : Cx E p s m args meth c cc nL ret own) {w index : Nat} {tx : String} (hq : (own, index, tx, w) ∈ strR) (hdg : decode cc pc = .ok (.ldc index, 2))
    (kk : W p l e R s m args below meth c H locs cells slots Q (F0 m (pc + 2) ls (.ref (E.2.2.2.2 (2 + w)) :: rest))) : W p l e R s m args below meth c H locs cells slots Q (F0 m pc ls rest) := by
  obtain ⟨hx, hb, hml, hown, hts, hK, hSt, hlk, hr⟩ := C
  exact va_ldcS hx hb hown (hSt.2.2.2.2.2.2.2 _ hq) hdg kk
theorem q_runW (C : Cx E p s m args meth c cc nL ret own) (hw : Wd T E σ s H locs) (hz : ls.size = nL) {w : Nat} (h11 : w < 11) {y : MethodName} {cy : ByteArray} {nl n idx fr lo : Nat} {rt : Option FieldType} {As : List Value} {Qc : Array Value → State → Outcome → State → Prop}
    (hM : Met l y (.code y cy nl rt :: lw_gd) { frames := fr, cells := 0, slots := 0, locals := lo } (va_Pc (.ref (E.2.2.2.2 (2 + w)) :: As) (Pr T E σ)) Qc 0 0 E.2.2.1)
    (hy : yV y cy nl rt n) (hyc : y.cls = "java/lang/String") (hk : Cond.methodLink own idx y ∈ lw_gd) (hR : fr + 1 ≤ R.frames ∧ 8 + (nl + 11) + lo ≤ R.locals) (hn : As.length = n) (hrest : (rest.map fun v => v.category).sum ≤ 8) (hf : cells ≤ R.cells ∧ slots ≤ R.slots)
    (hdg : decode cc pc = .ok (.invokevirtual idx, 3)) : va_Run p l e R s m args below meth c H locs cells slots 0 0 (F0 m pc ls (As.reverse ++ .ref (E.2.2.2.2 (2 + w)) :: rest)) rest (Qc (Value.ref (E.2.2.2.2 (2 + w)) :: As).toArray) E.2.2.1 := by
  have hpr := fun (U : State) (hU : U.heap = H) (hW : s.WarmedH U.vm) => Pr.at C hw hU hW
  obtain ⟨hx, hb, hml, hown, hts, hK, hSt, hlk, hr⟩ := C
  refine va_runV (As := As) (rest := rest) (nL := nL) ⟨hx, hb, hml, hown, hts⟩ hM (cwV n hts (yV_in hy hk) rfl rfl rfl ⟨rfl, hy.1.1, hy.1.2.1, hy.1.2.2⟩ hR) ⟨Pr.blind, by rw [hyc]; exact vk_recv (adK := fun i => E.2.2.2.2 (2 + i)) (i := w) hSt.2.2.2.2.2.2.1 h11 hw.2.2, fun U hU hW => ⟨rfl, hpr U hU hW⟩⟩ rfl hn hz rfl (lv_room hrest) hdg hf
/-- places told by a constant -/
theorem q_ialdk (C : Cx E p s m args meth c cc nL ret own) (hw : Wd T E σ s H locs) {c0 n k : Nat} (hT : T[c0]? = some (20, n)) {i : Int32} (hi : i = nI k) (hk : k < n) (hn : k < 2 ^ 31) (hdg : decode cc pc = .ok (.iaload, 1))
    (kk : W p l e R s m args below meth c H locs cells slots Q (F0 m (pc + 1) ls (.int (gI σ c0 k) :: rest))) : W p l e R s m args below meth c H locs cells slots Q (F0 m pc ls (.int i :: .ref (E.2.1 c0) :: rest)) := by
  subst hi
  refine q_iald C hw hT (by unfold ib; exact decide_eq_true (nI_in_of hk hn)) hdg ?_
  rw [nI_clamp hn]
  exact kk
theorem q_iastk (C : Cx E p s m args meth c cc nL ret own) (hw : Wd T E σ s H locs) {c0 n k : Nat} (hT : T[c0]? = some (20, n)) {i x : Int32} (hi : i = nI k) (hk : k < n) (hn : k < 2 ^ 31) (eτ : τ = sI σ c0 k x) (hdg : decode cc pc = .ok (.iastore, 1))
    (kk : ∀ (H1 : Heap) (locs1 : List Loc), Wd T E τ s H1 locs1 → W p l e R s m args below meth c H1 locs1 cells slots Q (F0 m (pc + 1) ls rest)) : W p l e R s m args below meth c H locs cells slots Q (F0 m pc ls (.int x :: .int i :: .ref (E.2.1 c0) :: rest)) := by
  subst hi
  exact q_iast C hw hT (by unfold ib; exact decide_eq_true (nI_in_of hk hn)) (by rw [nI_clamp hn]; exact eτ) hdg kk
/-- a static call with up to twelve words below its arguments -/
theorem q_runS12 (C : Cx E p s m args meth c cc nL ret own) (hw : Wd T E σ s H locs) (hz : ls.size = nL) {y : MethodName} {cy : ByteArray} {nl n idx fr lo : Nat} {rt : Option FieldType} {As : List Value} {Qc : Array Value → State → Outcome → State → Prop}
    (hM : Met l y (.code y cy nl rt :: lw_gd) { frames := fr, cells := 0, slots := 0, locals := lo } (va_Pc As (Pr T E σ)) Qc 0 0 E.2.2.1)
    (hy : yS y cy nl rt n) (hk : Cond.methodLink own idx y ∈ lw_gd) (hR : fr + 1 ≤ R.frames ∧ 12 + (nl + 11) + lo ≤ R.locals) (hn : As.length = n) (hrest : (rest.map fun v => v.category).sum ≤ 12) (hf : cells ≤ R.cells ∧ slots ≤ R.slots)
    (hdg : decode cc pc = .ok (.invokestatic idx, 3)) : va_Run p l e R s m args below meth c H locs cells slots 0 0 (F0 m pc ls (As.reverse ++ rest)) rest (Qc As.toArray) E.2.2.1 := by
  have hpr := fun (U : State) (hU : U.heap = H) (hW : s.WarmedH U.vm) => Pr.at C hw hU hW
  obtain ⟨hx, hb, hml, hown, hts, hK, hSt, hlk, hr⟩ := C
  obtain ⟨⟨hy1, hy2, hy3⟩, hcd, hin, hst⟩ := hy
  have hG : GoodIn lw_gd (.code y cy nl rt :: lw_gd) := lw_goodIn (fun w hw => by
    rcases List.mem_cons.mp hw with rfl | h
    · exact hcd
    · exact h)
  have hini := hts _ hin
  have hB : Back l R p e below s args y 3 12 (PreOf R 0 0 (va_Pc As (Pr T E σ))) (PostOf Qc 0 0 E.2.2.1) :=
    back_of (bytes := cy) (maxL := nl) (ret := rt) hM Pr.blind rfl rfl hR.1 hR.2 (pay_in hts hG) List.mem_cons_self (fun a' U hW => word_at hW (good_of_word (List.mem_filter.mp hin).2) hini)
  intro T' hT' X
  obtain ⟨v, vm₁, ⟨U', l2, c2, s2⟩, hW₁, X', ⟨g', mk, t, L, e1, e2, hq, h1, hL, h2, h3⟩, st⟩ := callS X hx (bytes := cy) (maxL := nl) (ret := rt) hown (hts _ hk) (hts _ hst) hini (hts _ hcd) ⟨hy1, hy2⟩ hB (g := F0 m pc ls (As.reverse ++ rest)) rfl (hz.trans hml.symm) (argsL := As) (rest := rest)
    (fun sig h => by rw [h] at hy3; exact hn.trans (Option.some.inj hy3).symm) rfl (by show 2 * 0 + _ ≤ _; omega) (by rw [hb]; exact hdg) (fun vm₁ hW₁ => ⟨hf.1, hf.2, rfl, hpr (T'.setVm vm₁) hT' hW₁⟩)
  dsimp only [Pt.U, Pt.locs, Pt.cells, Pt.slots] at X' e1 e2 h1 h2 h3 st
  subst h1; subst h2; subst h3
  exact ⟨v, (T'.setVm vm₁).calling g' mk As.toArray, t, U', L, hT', X', hL, e1, e2, hq, st⟩
/-- chars and bytes as answers -/
def ic (x : Int32) : Bool := decide ((x.toUInt32 % 65536).toInt32 = x)
def i8 (x : Int32) : Bool := decide (x.toInt8.toInt32 = x)
theorem q_cret (C : Cx E p s m args meth c cc nL (some .char) own) {r : Int32} (hz : ic r = true) (hw : Wd T E τ s H locs) (hdg : decode cc pc = .ok (.ireturn, 1)) :
    W p l e R s m args below meth c H locs 0 0 (MQ below (QI T E r τ) args s 0 0 E.2.2.1) (F0 m pc ls [.int r]) := by
  obtain ⟨hx, hb, hml, hown, hts, hK, hSt, hlk, hr⟩ := C
  have hz := of_decide_eq_true hz
  exact W.zret (v := r) (ty := .char) hx hb hr (by rw [← hz]; exact pk_nc r) (fun t ht hW => ⟨⟨r, τ, rfl, ⟨rfl, rfl⟩, by unfold Po; rw [ht]; exact hw.1⟩, hw.2.2.F ht⟩) hw.2.2.2.2 hdg hlk
theorem q_bret (C : Cx E p s m args meth c cc nL (some .byte) own) {r : Int32} (hz : i8 r = true) (hw : Wd T E τ s H locs) (hdg : decode cc pc = .ok (.ireturn, 1)) :
    W p l e R s m args below meth c H locs 0 0 (MQ below (QI T E r τ) args s 0 0 E.2.2.1) (F0 m pc ls [.int r]) := by
  obtain ⟨hx, hb, hml, hown, hts, hK, hSt, hlk, hr⟩ := C
  have hz := of_decide_eq_true hz
  exact W.zret (v := r) (ty := .byte) hx hb hr (by rw [← hz]; exact pk_nb r) (fun t ht hW => ⟨⟨r, τ, rfl, ⟨rfl, rfl⟩, by unfold Po; rw [ht]; exact hw.1⟩, hw.2.2.F ht⟩) hw.2.2.2.2 hdg hlk
end ROWS2
