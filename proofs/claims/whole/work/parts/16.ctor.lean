/-! CONSTRUCTORS: the cells stand one behind another, from the object on -/
def wz (b : Nat) (es : List va_E) : va_W := es.mapIdx (fun c e => (b + c, e))
theorem wz_get {b : Nat} {es : List va_E} {c : Nat} {e : va_E} (h : es[c]? = some e) : (wz b es)[c]? = some (b + c, e) := by simp [wz, List.getElem?_mapIdx, h]
theorem wz_len (b : Nat) (es : List va_E) : (wz b es).length = es.length := by simp [wz]
theorem wz_app (b : Nat) (es fs : List va_E) : wz b (es ++ fs) = wz b es ++ wz (b + es.length) fs := by
  simp only [wz, List.mapIdx_append]
  congr 1
  apply List.ext_getElem?
  intro k
  simp only [List.getElem?_mapIdx]
  cases fs[k]? with
  | none => rfl
  | some e => simp only [Option.map_some]; rw [Nat.add_assoc, Nat.add_comm k]
theorem wz_set (b : Nat) (es : List va_E) (c : Nat) (e : va_E) (h : c < es.length) : (wz b es).set c (b + c, e) = wz b (es.set c e) := by
  apply List.ext_getElem?
  intro k
  by_cases hk : k = c
  · subst hk
    rw [wz_get (es := es.set k e) (List.getElem?_set_self h), List.getElem?_set_self (by rw [wz_len]; exact h)]
  · rw [List.getElem?_set_ne (Ne.symm hk)]
    simp [wz, List.getElem?_mapIdx, List.getElem?_set_ne (Ne.symm hk)]
theorem wz_D (b : Nat) (es : List va_E) : va_D (fun q => b ≤ q) (wz b es) := by
  have key : ∀ (k : Nat) (q : Nat × va_E), (wz b es)[k]? = some q → q.1 = b + k := by
    intro k q hq
    simp only [wz, List.getElem?_mapIdx, Option.map_eq_some_iff] at hq
    obtain ⟨e, -, rfl⟩ := hq
    rfl
  refine ⟨fun i j x y hi hj hxy => ?_, fun k q hk => ?_⟩
  · have h1 := key i x hi
    have h2 := key j y hj
    omega
  · have h1 := key k q hk
    show b ≤ q.1
    omega
def nestL : List (String × Nat × MethodName) := [(RX11, 19, yX8_init), (RX8, 9, yX9_init), (RX8, 25, yX2_init), (RX8, 32, yX7_init), (RX8, 39, yX1_init), (RX8, 46, yX4_init), (RX11, 29, yX6_init), (RX11, 36, yX5_init), (RX11, 43, yX0_init), (RX11, 48, yX3_init)]
def Nf (U : State) : Prop := va_AO RX3 U ∧ ∀ q ∈ nestL, va_Nw (.methodLinkNest q.1 q.2.1 q.2.2 "MillWind") U
theorem Nf.warm {s U : State} (hW : s.WarmedH U.vm) (h : Nf s) : Nf U := ⟨va_AO.moved hW.alike h.1, fun q hq => va_Nw.warmM hW (h.2 q hq)⟩
theorem Nf.same {s U : State} (hv : s.vm = U.vm) (h : Nf s) : Nf U := ⟨va_AO.moved (by rw [hv]; exact Vm.Alike.refl _) h.1, fun q hq => va_Nw.same rfl hv (h.2 q hq)⟩
def Zc (E : EV) (b : Nat) (es : List va_E) (s : State) (H : Heap) (locs : List Loc) : Prop := va_P E.1 vwCl (wz b es) H ∧ H.size = b + es.length ∧ va_S (fun q => b ≤ q) s.heap H locs
def Zp (E : EV) (b : Nat) (es : List va_E) (U : State) : Prop := va_P E.1 vwCl (wz b es) U.heap ∧ U.heap.size = b + es.length ∧ va_K E.1 vwCl (atys E) U ∧ Nf U
def Zq (E : EV) (b : Nat) (es : List va_E) (t : State) : Prop := va_P E.1 vwCl (wz b es) t.heap ∧ t.heap.size = b + es.length
def Cz (E : EV) (p : Program) (s : State) (m : MethodId) (args : Array Value) (meth : Method) (c : Code) (cc : ByteArray) (nL : Nat) (own : String) : Prop :=
  p.tables.exec = Jvm.exec ∧ c.code = cc ∧ c.maxLocals = nL ∧ s.vm.findClass own = some m.cls ∧ (∀ w ∈ lw_gd, w.before args s = true) ∧ va_K E.1 vwCl (atys E) s ∧ Nf s ∧ meth.locks = false ∧ meth.sig.returnType = none ∧ meth.name = "<init>"
/-- a constructor's contract: the object at b, blank, is the last cell; then es stands from b on -/
def MC (l : Launch) (E : EV) (y : MethodName) (cc : ByteArray) (nL fr lo mc ms : Nat) (blank : va_E) (es : Nat → List va_E) : Prop := ∀ b : Nat,
  Met l y (.code y cc nL none :: lw_gd) { frames := fr, cells := mc, slots := ms, locals := lo } (va_Pc [.ref b] (Zp E b [blank])) (va_Qv (fun _ : Unit => True) (fun _ t => Zq E b (es b) t) (fun q => b ≤ q)) mc ms (fun q => b ≤ q)
theorem Zp.blind {E : EV} {b : Nat} {es : List va_E} {av : List Value} : FrameBlind (va_Pc av (Zp E b es)) := by
  intro a U g mk q
  obtain ⟨q0, qP, qz, qK, qN⟩ := q
  exact ⟨q0, qP, qz, va_K.moved (u := U) (U := U.calling g mk a) (Vm.Alike.refl U.vm) qK, qN.same rfl⟩
theorem mc_start {E : EV} {l : Launch} {y : MethodName} {cc : ByteArray} {nL fr lo mc ms b : Nat} {blank : va_E} {Qc : Array Value → State → Outcome → State → Prop} (own : String)
    (hy : plainFor y = true) (hy2 : y.cls = own) (hy3 : y.name = "<init>") (hlen : 1 ≤ nL)
    (body : ∀ (p : Program) (e : Env) (s : State) (m : MethodId) (args : Array Value) (below : List Frame) (meth : Method) (c : Code) (ls : Array Slot), Cz E p s m args meth c cc nL own → Zc E b [blank] s s.heap [] → lv_has ls nL [(0, .ref b)] →
      W p l e { frames := fr, cells := mc, slots := ms, locals := lo } s m args below meth c s.heap [] 0 0 (MQ below Qc args s mc ms (fun q => b ≤ q)) (F0 m 0 ls [])) :
    Met l y (.code y cc nL none :: lw_gd) { frames := fr, cells := mc, slots := ms, locals := lo } (va_Pc [.ref b] (Zp E b [blank])) Qc mc ms (fun q => b ≤ q) := by
  refine va_MetF (cc := cc) (maxL := nL) (ret := none) hy rfl ?_
  intro p e s m args below meth c s₁ B hml hv
  obtain ⟨rfl, hP, hz, hK, hN⟩ := hv
  have hts : ∀ w ∈ Cond.code y cc nL none :: lw_gd, w.before [Value.ref b].toArray s = true := atoms_spec B.pre
  rw [lg_entry_eq]
  exact body p e s m [Value.ref b].toArray below meth c _ ⟨B.exec, B.bytes, hml, by rw [← hy2]; exact findClass_of_methodNamed B.named, fun w hw => hts w (List.mem_cons_of_mem _ hw), hK, hN, B.notSynchronized, B.returns, (name_of_methodNamed B.named B.method).1.trans hy3⟩ ⟨hP, hz, va_S.rf⟩ (lv_entry [Value.ref b] hlen)
section CTOR
variable {p : Program} {l : Launch} {e : Env} {R : Room} {s : State} {m : MethodId} {args : Array Value} {below : List Frame} {meth : Method} {c : Code} {H : Heap} {locs : List Loc} {cells slots : Nat} {Q : State → Prop}
variable {pc : Nat} {ls : Array Slot} {rest : List Value} {E : EV} {b : Nat} {es : List va_E} {cc : ByteArray} {nL : Nat} {own : String}
theorem z_obj (C : Cz E p s m args meth c cc nL own) (hl : ls.size = nL) {idx a : Nat} (hk : Cond.methodLink own idx ⟨"java/lang/Object", "<init>", "()V"⟩ ∈ lw_gd) (hi : Cond.instanceMethod Lib.objectInit ∈ lw_gd) (hc : Cond.code Lib.objectInit ⟨#[0xb1]⟩ 1 none ∈ lw_gd) (h1 : 1 ≤ R.frames) (h2 : 20 ≤ R.locals) (hr8 : (rest.map fun v => v.category).sum ≤ 8) (hd : decode cc pc = .ok (.invokespecial idx, 3))
    (kk : W p l e R s m args below meth c H locs cells slots Q (F0 m (pc + 3) ls rest)) : W p l e R s m args below meth c H locs cells slots Q (F0 m pc ls (.ref a :: rest)) := by
  obtain ⟨hx, hb, hml, hown, hts, hK, hN, hlk, hr, hnm⟩ := C
  exact W.objInit hx hb hown (hts _ hk) (hts _ hi) (hts _ hc) rfl (hl.trans hml.symm) rfl hd h1 (Nat.le_trans (Nat.add_le_add_right (lv_room hr8) 12) h2) kk
theorem z_new (C : Cz E p s m args meth c cc nL own) (hz : Zc E b es s H locs) {index ci N : Nat} {Cn : String} {Tf : u_T} {fs : List Value} (hc : vwCl[ci]? = some (Cn, Tf, N)) (hin : ∀ w ∈ u_ws Cn Tf N, w ∈ lw_gd) (ty : Nat → FieldType) (hty : ∀ k, k < N → parseFieldDescriptor (Tf k).2.2.1 = some (ty k))
    (hcl : Cond.classLink own index Cn ∈ lw_gd) (hinst : Cond.instantiable Cn N ∈ lw_gd) (hini : Cond.initialized Cn ∈ lw_gd) (hfs : ∀ j, j < N → defaultValue (ty j) = vp_V fs j) (hcells : cells + 1 ≤ R.cells) (hslots : slots + N ≤ R.slots) (hdg : decode cc pc = .ok (.new index, 3)) {q : Nat} (hq : b + es.length = q)
    (kk : ∀ (H1 : Heap), Zc E b (es ++ [.inr (ci, fs)]) s H1 locs → W p l e R s m args below meth c H1 locs (cells + 1) (slots + N) Q (F0 m (pc + 3) ls (.ref q :: rest))) : W p l e R s m args below meth c H locs cells slots Q (F0 m pc ls rest) := by
  obtain ⟨hx, hb, hml, hown, hts, hK, hN, hlk, hr, hnm⟩ := C
  obtain ⟨hP, hsz, hS⟩ := hz
  have hKn := hK.1 ci _ hc
  refine W.newcK hx hb hown (hts _ hcl) (hts _ hinst) (hts _ hini) rfl hdg hcells hslots hKn.2.1 rfl fun H1 kC hkC e1 z1 o1 => ?_
  have hk : ∀ (k : Nat) (x : Nat × va_E), (wz b es)[k]? = some x → H1[x.1]? = H[x.1]? := fun k x hx => o1 x.1 ((hP k x hx).lt)
  rw [show H.size = q by omega] at e1 z1 o1 ⊢
  refine kk H1 ⟨?_, by rw [z1, List.length_append]; simp; omega, ⟨Nat.le_trans hS.1 (by omega), fun x h1 h2 => (o1 x (Nat.lt_of_lt_of_le h1 (by have := hS.1; omega))).trans (hS.2.1 x h1 h2), hS.2.2⟩⟩
  · rw [wz_app]
    refine (hP.kept hk).app (fun k x hx => ?_)
    have hz : k < 1 := by have := (List.getElem?_eq_some_iff.mp hx).1; rw [wz_len] at this; exact this
    rw [show k = 0 by omega] at hx
    rw [hq] at hx
    cases hx
    exact ⟨_, hc, (u_born ty hts hin hKn hkC e1 hty).to hfs⟩
/-- a new array of numbers: its class is the one that is known -/
theorem z_newa (C : Cz E p s m args meth c cc nL own) (hz : Zc E b es s H locs) {atype : ArrayType} {ty : FieldType} (hty : newarray.typeOf atype = ty) (harr : Cond.arrayClass ty ∈ lw_gd) {t0 : Nat} (ht : (atys E)[t0]? = some (E.2.2.2.1 t0, ty)) (hf : ∀ U : State, ∀ cA, va_RA U cA ty → U.vm.findClass ("[" ++ ty.toString) = some cA)
    {n : Int32} {N : Nat} {a0 : vp_A} (ha : vp_cell (E.2.2.2.1 t0) a0 = arrV (E.2.2.2.1 t0) N (fun _ => defaultValue ty)) (hn : ¬ n < 0) (hN : n.toNatClampNeg = N) (hbytes : N * componentBytes ty ≤ 536870912) (hcells : cells + 1 ≤ R.cells) (hslots : slots + N ≤ R.slots) (hdg : decode cc pc = .ok (.newarray atype, 2)) {q : Nat} (hq : b + es.length = q)
    (kk : ∀ (H1 : Heap), Zc E b (es ++ [.inl (E.2.2.2.1 t0, a0)]) s H1 locs → W p l e R s m args below meth c H1 locs (cells + 1) (slots + N) Q (F0 m (pc + 2) ls (.ref q :: rest))) : W p l e R s m args below meth c H locs cells slots Q (F0 m pc ls (.int n :: rest)) := by
  subst hty
  obtain ⟨hx, hb, hml, hown, hts, hK, hN0, hlk, hr, hnm⟩ := C
  obtain ⟨hP, hsz, hS⟩ := hz
  refine va_newaK hx hb (hts _ harr) rfl hdg rfl hn hN hbytes hcells hslots (h := q) (by omega) fun H1 cA e1 z1 o1 hAr hNm => ?_
  have hcA : cA = E.2.2.2.1 t0 := Option.some.inj (hNm.symm.trans (hf s _ (hK.2 t0 _ ht).2))
  subst hcA
  have hk : ∀ (k : Nat) (x : Nat × va_E), (wz b es)[k]? = some x → H1[x.1]? = H[x.1]? := fun k x hx => o1 x.1 (by have := (hP k x hx).lt; omega)
  refine kk H1 ⟨?_, by rw [z1, List.length_append]; simp; omega, ⟨Nat.le_trans hS.1 (by omega), fun x h1 h2 => (o1 x (Nat.lt_of_lt_of_le h1 (by have := hS.1; omega))).trans (hS.2.1 x h1 h2), hS.2.2⟩⟩
  · rw [wz_app]
    refine (hP.kept hk).app (fun k x hx => ?_)
    have hz : k < 1 := by have := (List.getElem?_eq_some_iff.mp hx).1; rw [wz_len] at this; exact this
    rw [show k = 0 by omega] at hx
    rw [hq] at hx
    cases hx
    show H1[q]? = some (vp_cell _ _)
    rw [ha]
    exact e1
/-- a new array of references -/
theorem z_newq (C : Cz E p s m args meth c cc nL own) (hz : Zc E b es s H locs) {index : Nat} (hcl : Cond.classLink own index RX3 ∈ lw_gd) {n : Int32} {N : Nat} (hn : ¬ n < 0) (hN : n.toNatClampNeg = N) (hbytes : N * 4 ≤ 536870912) (hcells : cells + 1 ≤ R.cells) (hslots : slots + N ≤ R.slots) (hdg : decode cc pc = .ok (.anewarray index, 3)) {q : Nat} (hq : b + es.length = q)
    (kk : ∀ (H1 : Heap), Zc E b (es ++ [.inl (E.2.2.2.1 4, N, .inr (.inr (.inr (.inr (fun _ => none)))))]) s H1 locs → W p l e R s m args below meth c H1 locs (cells + 1) (slots + N) Q (F0 m (pc + 3) ls (.ref q :: rest))) : W p l e R s m args below meth c H locs cells slots Q (F0 m pc ls (.int n :: rest)) := by
  obtain ⟨hx, hb, hml, hown, hts, hK, hN0, hlk, hr, hnm⟩ := C
  obtain ⟨hP, hsz, hS⟩ := hz
  subst hN
  refine W.anew hx hb hown (hts _ hcl) (va_AO.use hN0.1) rfl hdg rfl hn hbytes hcells hslots fun cA kA comp f1 f2 f3 f4 => ?_
  obtain ⟨kA', comp', k1, k2, k3, k4⟩ := (hK.2 4 (E.2.2.2.1 4, .object RX3) rfl).2
  have hcA : cA = E.2.2.2.1 4 := Option.some.inj (f1.symm.trans k4)
  subst hcA
  generalize hH1 : H.push ({ cls := E.2.2.2.1 4, slots := Array.replicate n.toNatClampNeg .null, vm := .none } : Cell) = H1
  have z1 : H1.size = H.size + 1 := by rw [← hH1, Array.size_push]
  have e1 : H1[H.size]? = some (arrV (E.2.2.2.1 4) n.toNatClampNeg (fun _ => .null)) := by rw [← hH1, Array.getElem?_push_size, ← arrV_new]
  have o1 : ∀ q : Nat, q < H.size → H1[q]? = H[q]? := fun q hq => by rw [← hH1, Array.getElem?_push, if_neg (Nat.ne_of_lt hq)]
  have hk : ∀ (k : Nat) (x : Nat × va_E), (wz b es)[k]? = some x → H1[x.1]? = H[x.1]? := fun k x hx => o1 x.1 ((hP k x hx).lt)
  rw [show H.size = q by omega] at e1 z1 o1 ⊢
  refine kk H1 ⟨?_, by rw [z1, List.length_append]; simp; omega, ⟨Nat.le_trans hS.1 (by omega), fun x h1 h2 => (o1 x (Nat.lt_of_lt_of_le h1 (by have := hS.1; omega))).trans (hS.2.1 x h1 h2), hS.2.2⟩⟩
  · rw [wz_app]
    refine (hP.kept hk).app (fun k x hx => ?_)
    have hz : k < 1 := by have := (List.getElem?_eq_some_iff.mp hx).1; rw [wz_len] at this; exact this
    rw [show k = 0 by omega] at hx
    rw [hq] at hx
    cases hx
    show H1[q]? = some (vp_cell _ _)
    rw [vp_cell_q]
    exact e1
theorem z_get (C : Cz E p s m args meth c cc nL own) (hz : Zc E b es s H locs) {index ci N k c0 : Nat} {Cn ref : String} {Tf : u_T} {fs : List Value} {v : Value} (he : es[c0]? = some (.inr (ci, fs))) (hc : vwCl[ci]? = some (Cn, Tf, N)) (hin : ∀ w ∈ u_ws Cn Tf N, w ∈ lw_gd) (hk : k < N)
    (hlink : Cond.fieldLink own index ref (Tf k).2.1 (Tf k).2.2.1 ∈ lw_gd) (hsame : ref = (Tf k).1) (hv : fs[k]? = some v) (hdg : decode cc pc = .ok (.getfield index, 3)) {q : Nat} (hq : b + c0 = q)
    (kk : W p l e R s m args below meth c H locs cells slots Q (F0 m (pc + 3) ls (v :: rest))) : W p l e R s m args below meth c H locs cells slots Q (F0 m pc ls (.ref q :: rest)) := by
  obtain ⟨hx, hb, hml, hown, hts, hK, hN0, hlk, hr, hnm⟩ := C
  subst hsame
  subst hq
  exact va_get (D := E.1) (v := v) hx hb hts hin hown hK hz.1 c0 (wz_get he) hc k hk (hts _ hlink) (fun _ h => h) hv hdg kk
theorem z_put (C : Cz E p s m args meth c cc nL own) (hz : Zc E b es s H locs) {index ci N k c0 : Nat} {Cn ref : String} {Tf : u_T} {fs : List Value} {v : Value} {ty : FieldType} (he : es[c0]? = some (.inr (ci, fs))) (hc : vwCl[ci]? = some (Cn, Tf, N)) (hin : ∀ w ∈ u_ws Cn Tf N, w ∈ lw_gd)
    (ty0 : Nat → FieldType) (hty : ∀ k, k < N → parseFieldDescriptor (Tf k).2.2.1 = some (ty0 k)) (hnms : ∀ a, a < N → ∀ b, b < N → a ≠ b → (Tf a).2.1 ≠ (Tf b).2.1) (hk : k < N)
    (hlink : Cond.fieldLink own index ref (Tf k).2.1 (Tf k).2.2.1 ∈ lw_gd) (hsame : ref = (Tf k).1) (hdecl : (Tf k).1 = own) (hd : parseFieldDescriptor (Tf k).2.2.1 = some ty) (hn : narrow ty v = v) (hfit : fits ty v = true) (hlf : k < fs.length) (hdg : decode cc pc = .ok (.putfield index, 3)) {q : Nat} (hq : b + c0 = q)
    (kk : ∀ (H1 : Heap) (locs1 : List Loc), Zc E b (es.set c0 (.inr (ci, fs.set k v))) s H1 locs1 → W p l e R s m args below meth c H1 locs1 cells slots Q (F0 m (pc + 3) ls rest)) : W p l e R s m args below meth c H locs cells slots Q (F0 m pc ls (v :: .ref q :: rest)) := by
  obtain ⟨hx, hb, hml, hown, hts, hK, hN0, hlk, hr, hnm⟩ := C
  subst hsame
  subst hq
  obtain ⟨hP, hsz, hS⟩ := hz
  have hl0 : c0 < es.length := (List.getElem?_eq_some_iff.mp he).1
  have hap := va_apart (own := own) hts hin ty0 hty hnms hK hc
  obtain ⟨r, h1, cell, q1, q2, q3, q4⟩ := hP c0 _ (wz_get he)
  have hr2 : r = (Cn, Tf, N) := Option.some.inj (h1.symm.trans hc)
  subst hr2
  obtain ⟨hSl, hfc, kC, hkC, hkind⟩ := hK.1 ci _ hc
  obtain ⟨cf, kf, fi, f, hi, hsl⟩ := hSl k hk
  have hlays := u_lays hts hin hk
  have hst := (u_facts hfc hkC hlays hi).1
  have h6 := u_fits hfc hkC hkind hlays hi hd hn hfit
  have fin : ∀ (H' : Heap) (locs' : List Loc), locs' = locs ++ [⟨b + c0, f.slot⟩] → H'[b + c0]? = some (cell.setSlot f.slot v) → H'.size = H.size → (∀ q, q ≠ b + c0 → H'[q]? = H[q]?) → Zc E b (es.set c0 (.inr (ci, fs.set k v))) s H' locs' := by
    intro H' locs' el e1 e2 e3
    subst el
    rw [hsl] at e1
    refine ⟨?_, by rw [e2, List.length_set]; exact hsz, hS.put e2 e3 (Nat.le_add_right _ _)⟩
    rw [← wz_set b es c0 _ hl0]
    exact hP.set (wz_D b es) (wz_get he) ⟨_, hc, t_OB.to (V := updV (vp_V fs) k v) ⟨_, e1, q2, q3, t_set q4 hap hk v⟩ (fun j _ => vp_updV_set hlf v j)⟩ e3
  have hlay := hts _ (hin _ (u_in_lay hk))
  unfold u_lay at hlay
  by_cases hfin : (Tf k).2.2.2 = true
  · rw [if_pos hfin] at hlay
    have hcf : m.cls = cf := by
      obtain ⟨_, _, c', _, _, _, -, -, hf', -, -, -, hown2, -⟩ := Cond.laysFinal_spec hlay
      have e1 : c' = cf := by have := hi.symm.trans hf'; simp at this; exact this.1.symm
      rw [hdecl] at hown2
      rw [← e1]; exact Option.some.inj (hown.symm.trans hown2)
    exact W.putFinK hx hb hown (hts _ hlink) hi hst hcf hnm (by rw [q2]; exact h6) q1 q3 (by rw [hsl]; exact k2_hasslot (q4 k hk)) rfl rfl hdg fun H' e1 e2 e3 => kk H' _ (fin H' _ rfl e1 e2 e3)
  · rw [if_neg hfin] at hlay
    have h7 := u_store hfc hkC hkind hlay hi hd hn hfit
    exact W.putK hx hb (f := f) ⟨hown, hts _ hlink, ⟨_, _, _, hi⟩, hst⟩ (by rw [q2]; exact h7) q1 q3 (by rw [hsl]; exact k2_hasslot (q4 k hk)) rfl rfl hdg fun H' e1 e2 e3 => kk H' _ (fin H' _ rfl e1 e2 e3)
theorem z_alen (C : Cz E p s m args meth c cc nL own) (hz : Zc E b es s H locs) {c0 n : Nat} {f : Nat → Int32} (he : es[c0]? = some (.inl (E.2.2.2.1 0, n, .inl f))) {v : Int32} (hv : nI n = v) (hdg : decode cc pc = .ok (.arraylength, 1)) {q : Nat} (hq : b + c0 = q)
    (kk : W p l e R s m args below meth c H locs cells slots Q (F0 m (pc + 1) ls (.int v :: rest))) : W p l e R s m args below meth c H locs cells slots Q (F0 m pc ls (.ref q :: rest)) := by
  obtain ⟨hx, hb, hml, hown, hts, hK, hN0, hlk, hr, hnm⟩ := C
  subst hq
  exact va_alen hx hb hK hz.1 c0 0 (wz_get he) (ty := .int) rfl hv hdg kk
theorem z_iast (C : Cz E p s m args meth c cc nL own) (hz : Zc E b es s H locs) {c0 n : Nat} {f : Nat → Int32} (he : es[c0]? = some (.inl (E.2.2.2.1 0, n, .inl f))) {i x : Int32} (hin : vp_in i n) (hdg : decode cc pc = .ok (.iastore, 1)) {q : Nat} (hq : b + c0 = q)
    (kk : ∀ (H1 : Heap) (locs1 : List Loc), Zc E b (es.set c0 (.inl (E.2.2.2.1 0, n, .inl (upd f i.toNatClampNeg x)))) s H1 locs1 → W p l e R s m args below meth c H1 locs1 cells slots Q (F0 m (pc + 1) ls rest)) : W p l e R s m args below meth c H locs cells slots Q (F0 m pc ls (.int x :: .int i :: .ref q :: rest)) := by
  obtain ⟨hx, hb, hml, hown, hts, hK, hN0, hlk, hr, hnm⟩ := C
  subst hq
  obtain ⟨hP, hsz, hS⟩ := hz
  have hl0 : c0 < es.length := (List.getElem?_eq_some_iff.mp he).1
  refine W.iast hx hb (hP c0 _ (wz_get he)) ((hK.2 0 (E.2.2.2.1 0, .int) rfl).1 n (fun j => .int (f j))) (fun q => by cases q) (by show ¬ (i < 0 ∨ (arrV _ _ _).slots.size ≤ _); rw [arrV_size]; exact hin) rfl rfl hdg fun H1 e z oq => ?_
  refine kk H1 _ ⟨?_, by rw [z, List.length_set]; exact hsz, hS.put z oq (Nat.le_add_right _ _)⟩
  rw [← wz_set b es c0 _ hl0]
  refine hP.set (wz_D b es) (wz_get he) ?_ oq
  show H1[b + c0]? = some (vp_cell _ _)
  rw [e]
  rw [vp_cell_i, vp_cell_i, arrV_store]
  congr 2
  funext q
  by_cases hq : q = i.toNatClampNeg
  · subst hq
    simp [updV, upd]
  · simp [updV, upd, hq]
theorem z_aast (C : Cz E p s m args meth c cc nL own) (hz : Zc E b es s H locs) {c0 c1 n : Nat} {f : Nat → Option Nat} {vs : List Value} (he : es[c0]? = some (.inl (E.2.2.2.1 4, n, .inr (.inr (.inr (.inr f)))))) (hv : es[c1]? = some (.inr (3, vs))) {i : Int32} (hin : vp_in i n) (hdg : decode cc pc = .ok (.aastore, 1)) {q v : Nat} (hq : b + c0 = q) (hqv : b + c1 = v)
    (kk : ∀ (H1 : Heap) (locs1 : List Loc), Zc E b (es.set c0 (.inl (E.2.2.2.1 4, n, .inr (.inr (.inr (.inr (va_up f i.toNatClampNeg (some v)))))))) s H1 locs1 → W p l e R s m args below meth c H1 locs1 cells slots Q (F0 m (pc + 1) ls rest)) : W p l e R s m args below meth c H locs cells slots Q (F0 m pc ls (.ref v :: .int i :: .ref q :: rest)) := by
  obtain ⟨hx, hb, hml, hown, hts, hK, hN0, hlk, hr, hnm⟩ := C
  subst hq
  subst hqv
  obtain ⟨hP, hsz, hS⟩ := hz
  have hl0 : c0 < es.length := (List.getElem?_eq_some_iff.mp he).1
  have hlt : i.toNatClampNeg < n := Nat.not_le.mp fun q => hin (Or.inr q)
  have h0 : ¬ i < 0 := fun q => hin (Or.inl q)
  obtain ⟨r', hr', cellV, g1, g2, g3, -⟩ := hP c1 _ (wz_get hv)
  have hcls := (hK.1 3 (RX3, TX3, 11) rfl).2
  obtain ⟨kA, comp, k1, k2, k3, -⟩ := (hK.2 4 (E.2.2.2.1 4, .object RX3) rfl).2
  have hcomp : comp = E.1.1 3 := Option.some.inj (k3.symm.trans hcls.1)
  subst hcomp
  obtain ⟨kC, hkC, -⟩ := hcls.2
  refine W.aast hx hb (hP c0 _ (wz_get he)) (fun q h => by cases h) (fun h => by cases h) k1 k2 rfl hkC ⟨h0, by show _ < (arrV _ _ _).slots.size; rw [arrV_size]; exact hlt⟩ g1 (fun q h => by rw [g3] at h; cases h) (by rw [g2]; exact hkC) (by rw [g2]; exact va_assign hcls) rfl rfl hdg fun H1 e z oq => ?_
  refine kk H1 _ ⟨?_, by rw [z, List.length_set]; exact hsz, hS.put z oq (Nat.le_add_right _ _)⟩
  rw [← wz_set b es c0 _ hl0]
  refine hP.set (wz_D b es) (wz_get he) ?_ oq
  show H1[b + c0]? = some (vp_cell _ _)
  rw [e]
  rw [vp_cell_q, vp_cell_q, arrV_store]
  congr 2
  funext q
  by_cases hq : q = i.toNatClampNeg
  · subst hq
    simp [updV, va_up, va_rf]
  · simp [updV, va_up, hq]
/-- a nested constructor: its object is the last cell -/
theorem z_after {y : MethodName} {cy : ByteArray} {nl fr lo mc ms : Nat} {blank : va_E} {fs : List va_E} (C : Cz E p s m args meth c cc nL own) (hz : Zc E b (es ++ [blank]) s H locs) {q : Nat} (hq : b + es.length = q)
    (hr : va_Run p l e R s m args below meth c H locs cells slots mc ms (F0 m pc ls (.ref q :: rest)) rest (va_Qv (fun _ : Unit => True) (fun _ t => Zq E q fs t) (fun x => q ≤ x) ([Value.ref q] : List Value).toArray) (fun x => q ≤ x))
    (kk : ∀ (H1 : Heap) (locs1 : List Loc), Zc E b (es ++ fs) s H1 locs1 → W p l e R s m args below meth c H1 locs1 (cells + mc) (slots + ms) Q (F0 m (pc + 3) ls rest)) : W p l e R s m args below meth c H locs cells slots Q (F0 m pc ls (.ref q :: rest)) := by
  obtain ⟨hP, hsz, hS⟩ := hz
  have hbq : ∀ x : Nat, q ≤ x → b ≤ x := fun x h => by omega
  refine va_callv hr hS (fun x _ h => hbq x h) (fun x h => hbq x h) (fun u t H1 locs1 ht hvm hw hB hz1 hk1 hS1 => ?_)
  obtain ⟨hB1, hB2⟩ := hB
  rw [ht] at hB1 hB2
  refine kk H1 locs1 ⟨?_, by rw [hB2, List.length_append]; omega, hS1⟩
  rw [wz_app] at hP ⊢
  rw [hq] at hP ⊢
  refine va_P.app (fun k x hx => ?_) hB1
  have hx2 := hP k x (by rw [List.getElem?_append_left (List.getElem?_eq_some_iff.mp hx).1]; exact hx)
  refine hx2.kept (hk1 x.1 hx2.lt ?_)
  simp only [wz, List.getElem?_mapIdx, Option.map_eq_some_iff] at hx
  obtain ⟨e0, he0, rfl⟩ := hx
  have := (List.getElem?_eq_some_iff.mp he0).1
  show ¬ q ≤ b + k
  omega
def yC (y : MethodName) (cy : ByteArray) (nl : Nat) : Prop := (y.cls ≠ "java/lang/invoke/MethodHandle" ∧ y.cls ≠ "java/lang/invoke/VarHandle" ∧ (parseMethodDescriptor y.desc).map (fun d => d.parameters.length) = some 0) ∧ Cond.code y cy nl none ∈ lw_gd ∧ Cond.initialized y.cls ∈ lw_gd ∧ Cond.instanceMethod y ∈ lw_gd ∧ y.name = "<init>"
theorem yC_in {y : MethodName} {cy : ByteArray} {nl : Nat} (h : yC y cy nl) : GoodIn lw_gd (.code y cy nl none :: lw_gd) := lw_goodIn (fun w hw => by
  rcases List.mem_cons.mp hw with rfl | h2
  · exact h.2.1
  · exact h2)
theorem Zp.at {y : MethodName} (C : Cz E p s m args meth c cc nL own) {blank : va_E} (hz : Zc E b (es ++ [blank]) s H locs) {q : Nat} (hq : b + es.length = q) {U : State} (hU : U.heap = H) (hW : s.WarmedH U.vm) : Zp E q [blank] U := by
  obtain ⟨hx, hb, hml, hown, hts, hK, hN0, hlk, hr, hnm⟩ := C
  obtain ⟨hP, hsz, hS⟩ := hz
  refine ⟨?_, by rw [hU, hsz, List.length_append]; simp; omega, va_K.moved hW.alike hK, hN0.warm hW⟩
  rw [hU]
  rw [wz_app, hq] at hP
  intro k x hx
  exact hP ((wz b es).length + k) x (by rw [List.getElem?_append_right (Nat.le_add_right _ _), Nat.add_sub_cancel_left]; exact hx)
theorem z_init (C : Cz E p s m args meth c cc nL own) (hls : ls.size = nL) {y : MethodName} {cy : ByteArray} {nl fr lo mc ms idx : Nat} {blank : va_E} {fs : Nat → List va_E} (hM : MC l E y cy nl fr lo mc ms blank fs) (hy : yC y cy nl) (hz : Zc E b (es ++ [blank]) s H locs) {q : Nat} (hq : b + es.length = q)
    (hk : Cond.methodLink own idx y ∈ lw_gd) (hR : fr + 1 ≤ R.frames ∧ 8 + (nl + 11) + lo ≤ R.locals) (hrest : (rest.map fun v => v.category).sum ≤ 8) (hf : cells + mc ≤ R.cells ∧ slots + ms ≤ R.slots) (hdg : decode cc pc = .ok (.invokespecial idx, 3))
    (kk : ∀ (H1 : Heap) (locs1 : List Loc), Zc E b (es ++ fs q) s H1 locs1 → W p l e R s m args below meth c H1 locs1 (cells + mc) (slots + ms) Q (F0 m (pc + 3) ls rest)) : W p l e R s m args below meth c H locs cells slots Q (F0 m pc ls (.ref q :: rest)) := by
  refine z_after (y := y) (cy := cy) (nl := nl) (fr := fr) (lo := lo) C hz hq ?_ kk
  have hpr := fun (U : State) (hU : U.heap = H) (hW : s.WarmedH U.vm) => Zp.at (y := y) C hz hq hU hW
  obtain ⟨hx, hb, hml, hown, hts, hK, hN0, hlk, hr, hnm⟩ := C
  exact va_runI (As := []) (rest := rest) (nL := nL) ⟨hx, hb, hml, hown, hts⟩ (hM q) (cwI 0 hts (yC_in hy) rfl rfl rfl (hts _ hy.2.2.1) (hts _ hk) (hts _ hy.2.2.2.1) hy.2.2.2.2 hy.1 hR) ⟨Zp.blind, fun U hU hW => ⟨rfl, hpr U hU hW⟩⟩ rfl rfl hls rfl (lv_room hrest) hdg hf
theorem z_initN (C : Cz E p s m args meth c cc nL own) (hls : ls.size = nL) {y : MethodName} {cy : ByteArray} {nl fr lo mc ms idx : Nat} {blank : va_E} {fs : Nat → List va_E} (hM : MC l E y cy nl fr lo mc ms blank fs) (hy : yC y cy nl) (hz : Zc E b (es ++ [blank]) s H locs) {q : Nat} (hq : b + es.length = q)
    (hk : (own, idx, y) ∈ nestL) (hR : fr + 1 ≤ R.frames ∧ 8 + (nl + 11) + lo ≤ R.locals) (hrest : (rest.map fun v => v.category).sum ≤ 8) (hf : cells + mc ≤ R.cells ∧ slots + ms ≤ R.slots) (hdg : decode cc pc = .ok (.invokespecial idx, 3))
    (kk : ∀ (H1 : Heap) (locs1 : List Loc), Zc E b (es ++ fs q) s H1 locs1 → W p l e R s m args below meth c H1 locs1 (cells + mc) (slots + ms) Q (F0 m (pc + 3) ls rest)) : W p l e R s m args below meth c H locs cells slots Q (F0 m pc ls (.ref q :: rest)) := by
  refine z_after (y := y) (cy := cy) (nl := nl) (fr := fr) (lo := lo) C hz hq ?_ kk
  have hpr := fun (U : State) (hU : U.heap = H) (hW : s.WarmedH U.vm) => Zp.at (y := y) C hz hq hU hW
  obtain ⟨hx, hb, hml, hown, hts, hK, hN0, hlk, hr, hnm⟩ := C
  exact va_runIN (As := []) (rest := rest) (nL := nL) (host := "MillWind") ⟨hx, hb, hml, hown, hts⟩ (hM q) ⟨va_cnB 0 hts (yC_in hy) rfl rfl rfl (hN0.2 _ hk) (hts _ hy.2.2.1) hy.1 hR, hy.2.2.2.2, hts _ hy.2.2.2.1⟩ ⟨Zp.blind, fun U hU hW => ⟨rfl, hpr U hU hW⟩⟩ rfl rfl hls rfl (lv_room hrest) hdg hf
theorem z_ret (C : Cz E p s m args meth c cc nL own) {mc ms : Nat} {fs : List va_E} (hz : Zc E b es s H locs) (he : es = fs) (hdg : decode cc pc = .ok (.return_, 1)) :
    W p l e R s m args below meth c H locs mc ms (MQ below (va_Qv (fun _ : Unit => True) (fun _ t => Zq E b fs t) (fun q => b ≤ q)) args s mc ms (fun q => b ≤ q)) (F0 m pc ls []) := by
  subst he
  obtain ⟨hx, hb, hml, hown, hts, hK, hN0, hlk, hr, hnm⟩ := C
  obtain ⟨hP, hsz, hS⟩ := hz
  exact W.vret hx hb hr (fun t ht hW => ⟨⟨(), rfl, trivial, by show va_P E.1 vwCl (wz b es) t.heap ∧ t.heap.size = b + es.length; rw [ht]; exact ⟨hP, hsz⟩⟩, hS.F ht⟩) hS.2.2 hdg hlk
end CTOR
