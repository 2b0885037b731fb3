/-! MEMORY: rows of ints and rows of longs, by the number of the cell; fields of an object stand in its row, too -/
abbrev Mem : Type := (Nat → Nat → Int32) × (Nat → Nat → Int64)
def gI (σ : Mem) (c k : Nat) : Int32 := σ.1 c k
def gL (σ : Mem) (c k : Nat) : Int64 := σ.2 c k
def sI (σ : Mem) (c k : Nat) (v : Int32) : Mem := (fun c' => if c' = c then (fun k' => if k' = k then v else σ.1 c k') else σ.1 c', σ.2)
def sL (σ : Mem) (c k : Nat) (v : Int64) : Mem := (σ.1, fun c' => if c' = c then (fun k' => if k' = k then v else σ.2 c k') else σ.2 c')
/-- the first n of row a stand in row b, too -/
def cpI (σ : Mem) (a b n : Nat) : Mem := (fun c' => if c' = b then (fun k => if k < n then σ.1 a k else σ.1 b k) else σ.1 c', σ.2)
theorem sI_row (σ : Mem) (c k : Nat) (v : Int32) : (sI σ c k v).1 c = upd (σ.1 c) k v := by
  funext j
  simp [sI, upd]
theorem sL_row (σ : Mem) (c k : Nat) (v : Int64) : (sL σ c k v).2 c = vp_updL (σ.2 c) k v := by
  funext j
  simp [sL, vp_updL]
theorem cpI_row (σ : Mem) (a b n : Nat) : (cpI σ a b n).1 b = va_cpy (σ.1 a) (σ.1 b) 0 0 n := by
  funext j
  simp [cpI, va_cpy]
/-- the classes' numbers, the cells' addresses, what may be written, the arrays' classes, addresses of what is there from the start, one more value -/
abbrev EV : Type := va_G × (Nat → Nat) × (Nat → Prop) × (Nat → ClassId) × (Nat → Nat)
/-- a field that names a cell by its number, or none -/
def rfn (E : EV) (x : Int32) : Value := if x = 0 then .null else .ref (E.2.1 x.toNatClampNeg)
/-- the number of the k-th mill's cell -/
def mo (k : Nat) : Nat := 48 + 7 * k
def cel (E : EV) (c : Nat) (kn : Nat × Nat) (f : Nat → Int32) (g : Nat → Int64) : va_E := match kn.1 with
  | 0 => .inr (0, [.ref (E.2.1 (c + 1)), .int (f 1), .int (f 2), .int (f 3), .int (f 4)])
  | 1 => .inr (1, [.ref (E.2.1 (c + 1)), .ref (E.2.1 (c + 2)), .int (f 2)])
  | 2 => .inr (2, [.int (f 0), .int (f 1), .int (f 2), .int (f 3), .int (f 4), .int (f 5)])
  | 3 => .inr (3, [.ref (E.2.1 (c + 1)), .ref (E.2.1 (c + 2)), .ref (E.2.1 (c + 3)), .ref (E.2.1 (c + 4)), .ref (E.2.1 (c + 5)), .ref (E.2.1 (c + 6)), .int (f 6), .int (f 7), .int (f 8), .int (f 9), .int (f 10)])
  | 4 => .inr (4, [.ref (E.2.1 (c + 1)), .ref (E.2.1 (c + 2)), .ref (E.2.1 (c + 3)), .ref (E.2.1 (c + 4)), .int (f 4)])
  | 5 => .inr (5, [.ref (E.2.1 (c + 1)), .ref (E.2.1 (c + 2)), .ref (E.2.1 (c + 3)), .ref (E.2.1 (c + 4)), .int (f 4), .int (f 5), rfn E (f 6), rfn E (f 7), rfn E (f 8), .int (f 9), .int (f 10), .int (f 11), .int (f 12), .int (f 13), .int (f 14)])
  | 6 => .inr (6, [rfn E (f 0), rfn E (f 1), .int (f 2)])
  | 7 => .inr (7, [.ref (E.2.1 (c + 1)), .ref (E.2.1 (c + 2)), .ref (E.2.1 (c + 3)), .ref (E.2.1 (c + 4)), .int (f 4)])
  | 8 => .inr (8, [.int (f 0), .ref (E.2.1 (c + 1)), .ref (E.2.1 (c + 3)), .ref (E.2.1 (c + 5)), .ref (E.2.1 (c + 6)), .ref (E.2.1 (c + 11)), .ref (E.2.1 (c + 14))])
  | 9 => .inr (9, [.ref (E.2.1 (c + 1)), .int (f 1)])
  | 10 => .inr (10, [.ref (E.2.1 (c + 1))])
  | 11 => .inr (11, [.ref (E.2.1 1), .ref (E.2.1 2), .ref (E.2.1 21), .ref (E.2.1 40), .ref (E.2.1 41), .ref (E.2.1 46), .int (f 6)])
  | 12 => .inr (12, [.int (f 0), .ref (E.2.1 1), .ref (E.2.1 2), .int (f 3), .int (f 4), .int (f 5), .int (f 6), .int (f 7), .int (f 8), .ref (E.2.1 3), .ref (E.2.1 4), .int (f 11), .int (f 12), .int (f 13), .int (f 14), .int (f 15), .ref (E.2.1 5), .ref (E.2.1 6), .ref (E.2.1 7), .ref (E.2.1 8), .ref (E.2.1 9), .ref (E.2.1 10), .ref (E.2.1 11), .ref (E.2.1 12), .ref (E.2.1 13), .int (f 25), .int (f 26), .int (f 27), .int (f 28), .int (f 29), .int (f 30), .int (f 31), .int (f 32), .ref (E.2.1 14), .ref (E.2.1 15), .int (f 35), .int (f 36), .int (f 37), .int (f 38)])
  | 20 => .inl (E.2.2.2.1 0, kn.2, .inl f)
  | 21 => .inl (E.2.2.2.1 1, kn.2, .inl f)
  | 22 => .inl (E.2.2.2.1 2, kn.2, .inr (.inl g))
  | 23 => .inl (E.2.2.2.1 3, kn.2, .inl f)
  | _ => .inl (E.2.2.2.1 4, kn.2, .inr (.inr (.inr (.inr (fun j => some (E.2.1 (mo j)))))))
def wd (T : List (Nat × Nat)) (E : EV) (σ : Mem) : va_W := T.mapIdx (fun c kn => (E.2.1 c, cel E c kn (σ.1 c) (σ.2 c)))
/-- the class's cells: the object, its mills' array, the state now, the image, the reader, the planner, the acts, the mills -/
def TC : List (Nat × Nat) := [(11, 0), (24, 5),
  (8, 0), (9, 0), (21, 120), (10, 0), (20, 36), (2, 0), (7, 0), (20, 10), (20, 10), (20, 10), (20, 100), (1, 0), (20, 10), (20, 10), (4, 0), (20, 6), (20, 6), (20, 6), (20, 6),
  (8, 0), (9, 0), (21, 120), (10, 0), (20, 36), (2, 0), (7, 0), (20, 10), (20, 10), (20, 10), (20, 100), (1, 0), (20, 10), (20, 10), (4, 0), (20, 6), (20, 6), (20, 6), (20, 6),
  (6, 0), (5, 0), (20, 4200), (20, 4200), (20, 21600), (20, 21600), (0, 0), (20, 20),
  (3, 0), (20, 10), (20, 10), (20, 10), (20, 120), (20, 6), (20, 4800),
  (3, 0), (20, 10), (20, 10), (20, 10), (20, 120), (20, 6), (20, 4800),
  (3, 0), (20, 10), (20, 10), (20, 10), (20, 120), (20, 6), (20, 4800),
  (3, 0), (20, 10), (20, 10), (20, 10), (20, 120), (20, 6), (20, 4800),
  (3, 0), (20, 10), (20, 10), (20, 10), (20, 120), (20, 6), (20, 4800)]
/-- the model's cells, in the order of its fields -/
def TM : List (Nat × Nat) := [(12, 0), (20, 1055), (20, 1055), (20, 6), (23, 64), (20, 4800), (20, 4800), (20, 4800), (20, 4800), (23, 4800), (20, 4200), (20, 21600), (22, 4200), (22, 21600), (20, 72), (20, 20)]
/-- a mill's cell -/
def MO (o : Nat) : Prop := ∃ k : Nat, k < 5 ∧ o = mo k
theorem mo_T {o : Nat} (h : MO o) : TC[o]? = some (3, 0) ∧ TC[o + 1]? = some (20, 10) ∧ TC[o + 2]? = some (20, 10) ∧ TC[o + 3]? = some (20, 10) ∧ TC[o + 4]? = some (20, 120) ∧ TC[o + 5]? = some (20, 6) ∧ TC[o + 6]? = some (20, 4800) := by
  obtain ⟨k, hk, rfl⟩ := h
  match k, hk with
  | 0, _ => exact ⟨rfl, rfl, rfl, rfl, rfl, rfl, rfl⟩
  | 1, _ => exact ⟨rfl, rfl, rfl, rfl, rfl, rfl, rfl⟩
  | 2, _ => exact ⟨rfl, rfl, rfl, rfl, rfl, rfl, rfl⟩
  | 3, _ => exact ⟨rfl, rfl, rfl, rfl, rfl, rfl, rfl⟩
  | 4, _ => exact ⟨rfl, rfl, rfl, rfl, rfl, rfl, rfl⟩
theorem wd_len (T : List (Nat × Nat)) (E : EV) (σ : Mem) : (wd T E σ).length = T.length := by simp [wd]
theorem wd_at {T : List (Nat × Nat)} (E : EV) (σ : Mem) {c : Nat} {kn : Nat × Nat} (h : T[c]? = some kn) : (wd T E σ)[c]? = some (E.2.1 c, cel E c kn (σ.1 c) (σ.2 c)) := by
  simp [wd, List.getElem?_mapIdx, h]
theorem wd_set {T : List (Nat × Nat)} (E : EV) (σ τ : Mem) {c : Nat} {kn : Nat × Nat} (h : T[c]? = some kn) (e : va_E) (he : e = cel E c kn (τ.1 c) (τ.2 c)) (ho : ∀ c', c' ≠ c → τ.1 c' = σ.1 c' ∧ τ.2 c' = σ.2 c') : (wd T E σ).set c (E.2.1 c, e) = wd T E τ := by
  have hl : c < (wd T E σ).length := by rw [wd_len]; exact (List.getElem?_eq_some_iff.mp h).1
  apply List.ext_getElem?
  intro k
  by_cases hk : k = c
  · subst hk
    rw [List.getElem?_set_self hl, wd_at E τ h, he]
  · rw [List.getElem?_set_ne (Ne.symm hk)]
    simp only [wd, List.getElem?_mapIdx]
    rw [(ho k hk).1, (ho k hk).2]
theorem wd_D {T : List (Nat × Nat)} {E : EV} {A : Nat → Prop} (σ τ : Mem) (h : va_D A (wd T E σ)) : va_D A (wd T E τ) := by
  have key : ∀ (k : Nat) (q : Nat × va_E), (wd T E τ)[k]? = some q → ∃ q0, (wd T E σ)[k]? = some q0 ∧ q0.1 = q.1 := by
    intro k q hq
    simp only [wd, List.getElem?_mapIdx, Option.map_eq_some_iff] at hq ⊢
    obtain ⟨kn, h1, rfl⟩ := hq
    exact ⟨_, ⟨kn, h1, rfl⟩, rfl⟩
  refine ⟨fun i j x y hi hj hxy => ?_, fun k q hk => ?_⟩
  · obtain ⟨x0, h1, h2⟩ := key i x hi
    obtain ⟨y0, h3, h4⟩ := key j y hj
    exact h.1 i j x0 y0 h1 h3 (h2.trans (hxy.trans h4.symm))
  · obtain ⟨q0, h1, h2⟩ := key k q hk
    rw [← h2]
    exact h.2 k q0 h1
def atys (E : EV) : List (ClassId × FieldType) := [(E.2.2.2.1 0, .int), (E.2.2.2.1 1, .byte), (E.2.2.2.1 2, .long), (E.2.2.2.1 3, .boolean), (E.2.2.2.1 4, .object RX3)]
/-! WHAT STANDS FROM THE START: two tables, some statics, the texts -/
def tAbove : List Int32 := [-1, 0, 0, 0, 3, 4, 1]
def tBodies : List Int32 := [1, 2, 3, 11, 0, 0, 0, 0, 21, 0, 31, 0, 0, 0, 41, 51, 0, 0, 0, 61, 0]
def lenS : List Nat := [7, 28, 6, 3, 5, 5, 5, 5, 5, 5, 5]
def bytS : List (List Int32) := [[102, 109, 104, 119, 99, 101, 98], [102, 97, 115, 116, 109, 101, 97, 108, 104, 101, 97, 116, 119, 101, 97, 114, 99, 111, 111, 108, 101, 100, 103, 101, 98, 117, 114, 110], [119, 99, 115, 104, 100, 102], [60, 61, 62], [102, 97, 115, 116, 32], [109, 101, 97, 108, 32], [104, 101, 97, 116, 32], [119, 101, 97, 114, 32], [99, 111, 111, 108, 32], [101, 100, 103, 101, 32], [98, 117, 114, 110, 32]]
def strR : List (String × Nat × String × Nat) := [(RX6, 39, "fmhwceb", 0), (RX6, 45, "fastmealheatwearcooledgeburn", 1), (RX6, 82, "wcshdf", 2), (RX6, 84, "<=>", 3), (RX12, 111, "wcshdf", 2), (RX12, 117, "<=>", 3), (RX12, 129, "fast ", 4), (RX12, 135, "meal ", 5), (RX12, 137, "heat ", 6), (RX12, 139, "wear ", 7), (RX12, 141, "cool ", 8), (RX12, 146, "edge ", 9), (RX12, 148, "burn ", 10)]
def Sta (E : EV) (U : State) (H : Heap) : Prop :=
  va_Z RX7 "ABOVE" "[I" (.ref (E.2.2.2.2 0)) E.2.2.1 U H ∧ va_T .int (E.2.2.2.2 0) 7 (fun j => .int (tAbove.getD j 0)) E.2.2.1 U H ∧
  va_Z RX0 "BODIES" "[I" (.ref (E.2.2.2.2 1)) E.2.2.1 U H ∧ va_T .int (E.2.2.2.2 1) 21 (fun j => .int (tBodies.getD j 0)) E.2.2.1 U H ∧
  va_Z "java/lang/String" "COMPACT_STRINGS" "Z" (.int 1) E.2.2.1 U H ∧ va_Zq "jdk/internal/util/Preconditions" "SIOOBE_FORMATTER" "Ljava/util/function/BiFunction;" E.2.2.1 U H ∧
  vk_S 11 lenS bytS (fun i => E.2.2.2.2 (2 + i)) (fun i => E.2.2.2.2 (20 + i)) E.2.2.1 U H ∧
  (∀ q ∈ strR, vk_R q.1 q.2.1 q.2.2.1 (E.2.2.2.2 (2 + q.2.2.2)) U)
theorem Sta.kept {E : EV} {U : State} {H H1 : Heap} (h : Sta E U H) (hq : ∀ a : Nat, a < H.size → ¬ E.2.2.1 a → H1[a]? = H[a]?) : Sta E U H1 := by
  obtain ⟨h1, h2, h3, h4, h5, h6, h7, h8⟩ := h
  exact ⟨h1.kept hq, h2.kept hq, h3.kept hq, h4.kept hq, h5.kept hq, h6.kept hq, h7.kept hq, h8⟩
theorem Sta.warm {E : EV} {s U : State} {H : Heap} (hW : s.WarmedH U.vm) (h : Sta E s H) : Sta E U H := by
  obtain ⟨h1, h2, h3, h4, h5, h6, h7, h8⟩ := h
  exact ⟨va_Z.moved hW.alike h1, va_T.moved hW.alike h2, va_Z.moved hW.alike h3, va_T.moved hW.alike h4, va_Z.moved hW.alike h5, va_Zq.moved hW.alike h6, vk_S.moved hW.alike h7, fun q hq => vk_R.warm hW (h8 q hq)⟩
theorem Sta.same {E : EV} {s U : State} {H : Heap} (hv : U.vm = s.vm) (h : Sta E s H) : Sta E U H := by
  have hA : s.vm.Alike U.vm := by rw [hv]; exact Vm.Alike.refl _
  obtain ⟨h1, h2, h3, h4, h5, h6, h7, h8⟩ := h
  exact ⟨va_Z.moved hA h1, va_T.moved hA h2, va_Z.moved hA h3, va_T.moved hA h4, va_Z.moved hA h5, va_Zq.moved hA h6, vk_S.moved hA h7, fun q hq => vk_R.same hv (h8 q hq)⟩
/-- the world of a memory: what a method starts with, and how it leaves the heap -/
def Wd (T : List (Nat × Nat)) (E : EV) (σ : Mem) (s : State) (H : Heap) (locs : List Loc) : Prop := va_P E.1 vwCl (wd T E σ) H ∧ va_D E.2.2.1 (wd T E σ) ∧ va_S E.2.2.1 s.heap H locs
def Pr (T : List (Nat × Nat)) (E : EV) (σ : Mem) (U : State) : Prop := va_P E.1 vwCl (wd T E σ) U.heap ∧ va_D E.2.2.1 (wd T E σ) ∧ va_K E.1 vwCl (atys E) U ∧ Sta E U U.heap
def Po (T : List (Nat × Nat)) (E : EV) (σ : Mem) (t : State) : Prop := va_P E.1 vwCl (wd T E σ) t.heap
def QI (T : List (Nat × Nat)) (E : EV) (r : Int32) (τ : Mem) : Array Value → State → Outcome → State → Prop := va_Qi (fun r' τ' => r' = r ∧ τ' = τ) (Po T E) E.2.2.1
def QL (T : List (Nat × Nat)) (E : EV) (r : Int64) (τ : Mem) : Array Value → State → Outcome → State → Prop := va_Ql (fun r' τ' => r' = r ∧ τ' = τ) (Po T E) E.2.2.1
def QV (T : List (Nat × Nat)) (E : EV) (τ : Mem) : Array Value → State → Outcome → State → Prop := va_Qv (fun τ' => τ' = τ) (Po T E) E.2.2.1
/-- contracts: a method that answers an int (a boolean), a long, nothing -/
def MI (T : List (Nat × Nat)) (l : Launch) (E : EV) (y : MethodName) (cc : ByteArray) (nL : Nat) (ret : Option FieldType) (fr lo : Nat) (av : List Value) (σ : Mem) (r : Int32) (τ : Mem) : Prop :=
  Met l y (.code y cc nL ret :: lw_gd) { frames := fr, cells := 0, slots := 0, locals := lo } (va_Pc av (Pr T E σ)) (QI T E r τ) 0 0 E.2.2.1
def ML (T : List (Nat × Nat)) (l : Launch) (E : EV) (y : MethodName) (cc : ByteArray) (nL : Nat) (ret : Option FieldType) (fr lo : Nat) (av : List Value) (σ : Mem) (r : Int64) (τ : Mem) : Prop :=
  Met l y (.code y cc nL ret :: lw_gd) { frames := fr, cells := 0, slots := 0, locals := lo } (va_Pc av (Pr T E σ)) (QL T E r τ) 0 0 E.2.2.1
def MV (T : List (Nat × Nat)) (l : Launch) (E : EV) (y : MethodName) (cc : ByteArray) (nL : Nat) (ret : Option FieldType) (fr lo : Nat) (av : List Value) (σ τ : Mem) : Prop :=
  Met l y (.code y cc nL ret :: lw_gd) { frames := fr, cells := 0, slots := 0, locals := lo } (va_Pc av (Pr T E σ)) (QV T E τ) 0 0 E.2.2.1
/-- what holds all along a method's run -/
def Cx (E : EV) (p : Program) (s : State) (m : MethodId) (args : Array Value) (meth : Method) (c : Code) (cc : ByteArray) (nL : Nat) (ret : Option FieldType) (own : String) : Prop :=
  p.tables.exec = Jvm.exec ∧ c.code = cc ∧ c.maxLocals = nL ∧ s.vm.findClass own = some m.cls ∧ (∀ w ∈ lw_gd, w.before args s = true) ∧ va_K E.1 vwCl (atys E) s ∧ Sta E s s.heap ∧ meth.locks = false ∧ meth.sig.returnType = ret
theorem Pr.blind {T : List (Nat × Nat)} {E : EV} {σ : Mem} {av : List Value} : FrameBlind (va_Pc av (Pr T E σ)) := by
  intro a U g mk q
  obtain ⟨q0, qP, qD, qK, qS⟩ := q
  exact ⟨q0, qP, qD, va_K.moved (u := U) (U := U.calling g mk a) (Vm.Alike.refl U.vm) qK, qS.same rfl⟩
theorem Pr.at {T : List (Nat × Nat)} {E : EV} {σ : Mem} {p : Program} {s : State} {m : MethodId} {args : Array Value} {meth : Method} {c : Code} {cc : ByteArray} {nL : Nat} {ret : Option FieldType} {own : String} {H : Heap} {locs : List Loc}
    (C : Cx E p s m args meth c cc nL ret own) (hw : Wd T E σ s H locs) {U : State} (hU : U.heap = H) (hW : s.WarmedH U.vm) : Pr T E σ U := by
  obtain ⟨hx, hb, hml, hown, hts, hK, hSt, hlk, hr⟩ := C
  obtain ⟨hP, hD, hS⟩ := hw
  refine ⟨by rw [hU]; exact hP, hD, va_K.moved hW.alike hK, ?_⟩
  rw [hU]
  exact (hSt.kept hS.2.1).warm hW
theorem lw_goodIn {ws : List Cond} (h : ∀ w ∈ ws, w ∈ lw_gd) : GoodIn lw_gd ws := fun w hw => ⟨h w hw, good_of_word (List.mem_filter.mp (h w hw)).2⟩
theorem mt_start {T : List (Nat × Nat)} {E : EV} {l : Launch} {y : MethodName} {cc : ByteArray} {nL : Nat} {ret : Option FieldType} {fr lo : Nat} {av : List Value} {σ : Mem} {Qc : Array Value → State → Outcome → State → Prop} (own : String)
    (hy : plainFor y = true) (hy2 : y.cls = own) (hlen : (lg_sl av).length ≤ nL)
    (body : ∀ (p : Program) (e : Env) (s : State) (m : MethodId) (args : Array Value) (below : List Frame) (meth : Method) (c : Code) (ls : Array Slot), Cx E p s m args meth c cc nL ret own → Wd T E σ s s.heap [] → lv_has ls nL (lv_args 0 av) →
      W p l e { frames := fr, cells := 0, slots := 0, locals := lo } s m args below meth c s.heap [] 0 0 (MQ below Qc args s 0 0 E.2.2.1) (F0 m 0 ls [])) :
    Met l y (.code y cc nL ret :: lw_gd) { frames := fr, cells := 0, slots := 0, locals := lo } (va_Pc av (Pr T E σ)) Qc 0 0 E.2.2.1 := by
  refine va_MetF (cc := cc) (maxL := nL) (ret := ret) hy rfl ?_
  intro p e s m args below meth c s₁ B hml hv
  obtain ⟨rfl, hP, hD, hK, hSt⟩ := hv
  have hts : ∀ w ∈ Cond.code y cc nL ret :: lw_gd, w.before av.toArray s = true := atoms_spec B.pre
  rw [lg_entry_eq]
  exact body p e s m av.toArray below meth c _ ⟨B.exec, B.bytes, hml, by rw [← hy2]; exact findClass_of_methodNamed B.named, fun w hw => hts w (List.mem_cons_of_mem _ hw), hK, hSt, B.notSynchronized, B.returns⟩ ⟨hP, hD, va_S.rf⟩ (lv_entry av hlen)
