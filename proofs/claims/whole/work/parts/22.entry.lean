section LAWNEW
variable {p : Program} {l : Launch} {e : Env} {R : Room} {s : State} {m : MethodId} {args : Array Value} {below : List Frame} {meth : Method} {c : Code} {H : Heap} {locs : List Loc} {cells slots : Nat} {Q : State → Prop}
variable {pc : Nat} {ls : Array Slot} {rest : List Value} {E : EV} {b : Nat} {es : List va_E} {cc : ByteArray} {nL : Nat} {own : String}
/-- the same rows for a method that is no constructor -/
theorem y_new (hx : p.tables.exec = Jvm.exec) (hb : c.code = cc) (hown : s.vm.findClass own = some m.cls) (hts : ∀ w ∈ lw_gd, w.before args s = true) (hK : va_K E.1 vwCl (atys E) s) (hz : Zc E b es s H locs) {index ci N : Nat} {Cn : String} {Tf : u_T} {fs : List Value} (hc : vwCl[ci]? = some (Cn, Tf, N)) (hin : ∀ w ∈ u_ws Cn Tf N, w ∈ lw_gd) (ty : Nat → FieldType) (hty : ∀ k, k < N → parseFieldDescriptor (Tf k).2.2.1 = some (ty k))
    (hcl : Cond.classLink own index Cn ∈ lw_gd) (hinst : Cond.instantiable Cn N ∈ lw_gd) (hini : Cond.initialized Cn ∈ lw_gd) (hfs : ∀ j, j < N → defaultValue (ty j) = vp_V fs j) (hcells : cells + 1 ≤ R.cells) (hslots : slots + N ≤ R.slots) (hdg : decode cc pc = .ok (.new index, 3)) {q : Nat} (hq : b + es.length = q)
    (kk : ∀ (H1 : Heap), Zc E b (es ++ [.inr (ci, fs)]) s H1 locs → W p l e R s m args below meth c H1 locs (cells + 1) (slots + N) Q (F0 m (pc + 3) ls (.ref q :: rest))) : W p l e R s m args below meth c H locs cells slots Q (F0 m pc ls rest) := by
  obtain ⟨hP, hsz, hS⟩ := hz
  have hKn := hK.1 ci _ hc
  refine W.newcK hx hb hown (hts _ hcl) (hts _ hinst) (hts _ hini) rfl hdg hcells hslots hKn.2.1 rfl fun H1 kC hkC e1 z1 o1 => ?_
  have hk : ∀ (k : Nat) (x : Nat × va_E), (wz b es)[k]? = some x → H1[x.1]? = H[x.1]? := fun k x hx => o1 x.1 ((hP k x hx).lt)
  rw [show H.size = q by omega] at e1 z1 o1 ⊢
  refine kk H1 ⟨?_, by rw [z1, List.length_append]; simp; omega, ⟨Nat.le_trans hS.1 (by omega), fun x h1 h2 => (o1 x (Nat.lt_of_lt_of_le h1 (by have := hS.1; omega))).trans (hS.2.1 x h1 h2), hS.2.2⟩⟩
  · rw [wz_app]
    refine (hP.kept hk).app (fun k x hx => ?_)
    have hz : k < 1 := by have := (List.getElem?_eq_some_iff.mp hx).1; rw [wz_len] at this; exact this
    rw [show k = 0 by omega] at hx
    rw [hq] at hx
    cases hx
    exact ⟨_, hc, (u_born ty hts hin hKn hkC e1 hty).to hfs⟩
theorem y_init (hx : p.tables.exec = Jvm.exec) (hb : c.code = cc) (hml : c.maxLocals = nL) (hown : s.vm.findClass own = some m.cls) (hts : ∀ w ∈ lw_gd, w.before args s = true) (hK : va_K E.1 vwCl (atys E) s) (hN0 : Nf s) (hls : ls.size = nL) {y : MethodName} {cy : ByteArray} {nl fr lo mc ms idx : Nat} {blank : va_E} {fs : Nat → List va_E} (hM : MC l E y cy nl fr lo mc ms blank fs) (hy : yC y cy nl) (hz : Zc E b (es ++ [blank]) s H locs) {q : Nat} (hq : b + es.length = q)
    (hk : Cond.methodLink own idx y ∈ lw_gd) (hR : fr + 1 ≤ R.frames ∧ 8 + (nl + 11) + lo ≤ R.locals) (hrest : (rest.map fun v => v.category).sum ≤ 8) (hf : cells + mc ≤ R.cells ∧ slots + ms ≤ R.slots) (hdg : decode cc pc = .ok (.invokespecial idx, 3))
    (kk : ∀ (H1 : Heap) (locs1 : List Loc), Zc E b (es ++ fs q) s H1 locs1 → W p l e R s m args below meth c H1 locs1 (cells + mc) (slots + ms) Q (F0 m (pc + 3) ls rest)) : W p l e R s m args below meth c H locs cells slots Q (F0 m pc ls (.ref q :: rest)) := by
  have hpr : ∀ (U : State), U.heap = H → s.WarmedH U.vm → Zp E q [blank] U := by
    intro U hU hW
    obtain ⟨hP, hsz, hS⟩ := hz
    refine ⟨?_, by rw [hU, hsz, List.length_append]; simp; omega, va_K.moved hW.alike hK, hN0.warm hW⟩
    rw [hU]
    rw [wz_app, hq] at hP
    intro k x hx
    exact hP ((wz b es).length + k) x (by rw [List.getElem?_append_right (Nat.le_add_right _ _), Nat.add_sub_cancel_left]; exact hx)
  have hr : va_Run p l e R s m args below meth c H locs cells slots mc ms (F0 m pc ls (.ref q :: rest)) rest (va_Qv (fun _ : Unit => True) (fun _ t => Zq E q (fs q) t) (fun x => q ≤ x) ([Value.ref q] : List Value).toArray) (fun x => q ≤ x) :=
    va_runI (As := []) (rest := rest) (nL := nL) ⟨hx, hb, hml, hown, hts⟩ (hM q) (cwI 0 hts (yC_in hy) rfl rfl rfl (hts _ hy.2.2.1) (hts _ hk) (hts _ hy.2.2.2.1) hy.2.2.2.2 hy.1 hR) ⟨Zp.blind, fun U hU hW => ⟨rfl, hpr U hU hW⟩⟩ rfl rfl hls rfl (lv_room hrest) hdg hf
  obtain ⟨hP, hsz, hS⟩ := hz
  have hbq : ∀ x : Nat, q ≤ x → b ≤ x := fun x h => by omega
  refine va_callv hr hS (fun x _ h => hbq x h) (fun x h => hbq x h) (fun u t H1 locs1 ht hvm hw hB hz1 hk1 hS1 => ?_)
  obtain ⟨hB1, hB2⟩ := hB
  rw [ht] at hB1 hB2
  refine kk H1 locs1 ⟨?_, by rw [hB2, List.length_append]; omega, hS1⟩
  rw [wz_app] at hP ⊢
  rw [hq] at hP ⊢
  refine va_P.app (fun k x hx => ?_) hB1
  have hx2 := hP k x (by rw [List.getElem?_append_left (List.getElem?_eq_some_iff.mp hx).1]; exact hx)
  refine hx2.kept (hk1 x.1 hx2.lt ?_)
  simp only [wz, List.getElem?_mapIdx, Option.map_eq_some_iff] at hx
  obtain ⟨e0, he0, rfl⟩ := hx
  have := (List.getElem?_eq_some_iff.mp he0).1
  show ¬ q ≤ b + k
  omega
end LAWNEW
theorem len_X11 (E : EV) (b : Nat) : (es_X11 E b).length = 83 := by simp [es_X11, len_X0, len_X3, len_X5, len_X6, len_X8]
set_option maxHeartbeats 4000000 in
set_option maxRecDepth 100000 in
/-- THE LAW, from its entry, out of what the two sides' methods do -/
theorem start_of {Rel : Nat → Mem → Mem → Prop} (SF : LawSteps Rel) (hidle : ∀ (n : Nat) (σ μ : Mem), Rel (n + 1) σ μ → Rel n σ μ) (h0 : Rel 64 sig0 mu0) {p : Program} {e : Env} {s : State} {m : MethodId} {below : List Frame} {meth : Method} {c : Code} (l : Launch) {b L : Nat} {xs : Nat → Int32} (hL : L ≤ 448) (C0 : lw_At p s m meth c b L xs) :
    W p l e room_1 s m #[Value.ref b] below meth c s.heap [] 0 0 (lw_Z below #[Value.ref b] s) (entryFrame m ([Value.ref b] : List Value).toArray 4) := by
  obtain ⟨hx, hb, hr, hml, hown, htl, hX, hbl, hlocks, hgv⟩ := C0
  have hts : ∀ w ∈ lw_gd, w.before #[Value.ref b] s = true := fun w hw => htl w (List.mem_filter.mp hw).1
  have hown : s.vm.findClass RL = some m.cls := hown
  obtain ⟨st, hst⟩ := sta_at htl hgv
  obtain ⟨D, ca, hKa⟩ := law_K hts htl
  have hN := law_N htl
  obtain ⟨n0, hn0⟩ : ∃ n, n = s.heap.size := ⟨_, rfl⟩
  have hl := lv_entry ([.ref b]) (n := 4) (Nat.le_of_ble_eq_true rfl)
  rw [lg_entry_eq]
  generalize (lg_sl ([.ref b]) ++ List.replicate (4 - (lg_sl ([.ref b])).length) Slot.unset).toArray = ls at hl ⊢
  replace hl : lv_has ls 4 [(0, .ref b)] := hl
  obtain ⟨E1, hE1⟩ : ∃ E : EV, E = ((D, (fun q => n0 + q), (fun q => n0 ≤ q ∧ q < n0 + 83), ca, st) : EV) := ⟨_, rfl⟩
  obtain ⟨E2, hE2⟩ : ∃ E : EV, E = ((D, (fun q => n0 + 83 + q), (fun q => n0 + 83 ≤ q ∧ q < n0 + 83 + 16), ca, st) : EV) := ⟨_, rfl⟩
  have hK : va_K E1.1 vwCl (atys E1) s := by rw [hE1]; exact hKa _ _ _
  have hK2 : va_K E2.1 vwCl (atys E2) s := by rw [hE2]; exact hKa _ _ _
  have hS1 : Sta E1 s s.heap := by
    rw [hE1]
    exact hst _ _ _ _ (fun a h z => by
      have z := z.1
      omega)
  have hS2 : Sta E2 s s.heap := by
    rw [hE2]
    exact hst _ _ _ _ (fun a h z => by
      have z := z.1
      omega)
  have hz : Zc E1 n0 [] s s.heap [] := ⟨fun k q h => by simp [wz] at h, by rw [hn0]; rfl, va_S.rf⟩
  refine y_new hx hb hown hts hK hz (ci := 11) (N := 7) (fs := [.null, .null, .null, .null, .null, .null, .int 0]) rfl inX11 tyX11 tyX11_ok kw_97 kw_98 kw_76 bl_11 (Nat.le_of_ble_eq_true rfl) (Nat.le_of_ble_eq_true rfl) dL_law_0 (q := n0) rfl (fun H hz => ?_)
  refine lv_dup hx hb dL_law_3 rfl ?_
  refine y_init hx hb hml hown hts hK hN hl.1 (es := []) (mc_X11 l E1) yc_X11 hz (q := n0) rfl kw_99 ⟨Nat.le_of_ble_eq_true rfl, Nat.le_of_ble_eq_true rfl⟩ (Nat.le_of_ble_eq_true rfl) ⟨Nat.le_of_ble_eq_true rfl, Nat.le_of_ble_eq_true rfl⟩ dL_law_4 (fun H locs hz => ?_)
  replace hz : Zc E1 n0 (es_X11 E1 n0) s H locs := hz
  refine lv_astore_n (lv' := [(1, .ref n0), (0, .ref b)]) hx hb dL_law_7 rfl hl (by decide) rfl (fun ls hl => ?_)
  refine y_new hx hb hown hts hK hz (ci := 12) (N := 39) (fs := [.int 0, .null, .null, .int 0, .int 0, .int 0, .int 0, .int 0, .int 0, .null, .null, .int 0, .int 0, .int 0, .int 0, .int 0, .null, .null, .null, .null, .null, .null, .null, .null, .null, .int 0, .int 0, .int 0, .int 0, .int 0, .int 0, .int 0, .int 0, .null, .null, .int 0, .int 0, .int 0, .int 0]) rfl inX12 tyX12 tyX12_ok kw_1013 kw_1014 kw_88 bl_12 (Nat.le_of_ble_eq_true rfl) (Nat.le_of_ble_eq_true rfl) dL_law_8 (q := n0 + 83) (by rw [len_X11]) (fun H hz => ?_)
  refine lv_dup hx hb dL_law_11 rfl ?_
  refine y_init hx hb hml hown hts hK hN hl.1 (es := es_X11 E1 n0) (mc_X12 l E1) yc_X12 hz (q := n0 + 83) (by rw [len_X11]) kw_1015 ⟨Nat.le_of_ble_eq_true rfl, Nat.le_of_ble_eq_true rfl⟩ (Nat.le_of_ble_eq_true rfl) ⟨Nat.le_of_ble_eq_true rfl, Nat.le_of_ble_eq_true rfl⟩ dL_law_12 (fun H locs hz => ?_)
  refine lv_astore_n (lv' := [(2, .ref (n0 + 83)), (1, .ref n0), (0, .ref b)]) hx hb dL_law_15 rfl hl (by decide) rfl (fun ls hl => ?_)
  refine lv_iconst (v := 0) hx hb dL_law_16 (by decide) ?_
  refine lv_istore_n (lv' := [(3, .int (0 : Int32)), (2, .ref (n0 + 83)), (1, .ref n0), (0, .ref b)]) hx hb dL_law_17 rfl hl (by decide) rfl (fun ls hl => ?_)
  obtain ⟨hP, hsz, hS⟩ := hz
  refine va_forget (fun q hq => by rw [← hn0]; exact hS.2.2 q hq) ?_
  rw [wz_app, len_X11] at hP
  have hP1 : va_P E1.1 vwCl (wz n0 (es_X11 E1 n0)) H := fun k q hk => hP k q (by rw [List.getElem?_append_left (List.getElem?_eq_some_iff.mp hk).1]; exact hk)
  have hP2 : va_P E1.1 vwCl (wz (n0 + 83) (es_X12 E1 (n0 + 83))) H := fun k q hk => hP ((wz n0 (es_X11 E1 n0)).length + k) q (by rw [List.getElem?_append_right (Nat.le_add_right _ _), Nat.add_sub_cancel_left]; exact hk)
  have g1 : va_P E1.1 vwCl (wd TC E1 sig0) H := by
    have g := conv_C (A := fun q => n0 ≤ q ∧ q < n0 + 83) (st := st) hP1
    rw [hE1] at g ⊢
    exact g
  have g2 : va_P E2.1 vwCl (wd TM E2 mu0) H := by
    have g := conv_M (A := fun q => n0 + 83 ≤ q ∧ q < n0 + 83 + 16) (st := st) hP2
    rw [hE1] at g
    rw [hE2]
    exact g
  have d1 : va_D E1.2.2.1 (wd TC E1 sig0) := by rw [hE1]; exact wd_Dz (fun c => rfl) rfl
  have d2 : va_D E2.2.2.1 (wd TM E2 mu0) := by rw [hE2]; exact wd_Dz (fun c => rfl) rfl
  have a1 : ∀ q, E1.2.2.1 q → s.heap.size ≤ q := by rw [hE1, ← hn0]; exact fun q h => h.1
  have a2 : ∀ q, E2.2.2.1 q → s.heap.size ≤ q := by
    rw [hE2, ← hn0]
    intro q h
    have h := h.1
    omega
  have a3 : ∀ q, E1.2.2.1 q → ¬ E2.2.2.1 q := by
    rw [hE1, hE2]
    intro q h z
    have h := h.2
    have z := z.1
    omega
  have hS0 : ∀ q : Nat, q < s.heap.size → H[q]? = s.heap[q]? := fun q hq => hS.2.1 q hq (by omega)
  have hw1 : Wd TC E1 sig0 s H [] := ⟨g1, d1, hS.1, fun q h1 _ => hS0 q h1, fun q hq => by cases hq⟩
  have hw2 : Wd TM E2 mu0 s H [] := ⟨g2, d2, hS.1, fun q h1 _ => hS0 q h1, fun q hq => by cases hq⟩
  have e1 : E1.2.1 0 = n0 := by rw [hE1]; rfl
  have e2 : E2.2.1 0 = n0 + 83 := by rw [hE2]
  refine law_loop SF hidle (E1 := E1) (E2 := E2) (xs := xs) (L := L) ⟨⟨hx, hb, hml, hown, hts, hK, hS1, hlocks, hr⟩, ⟨hx, hb, hml, hown, hts, hK2, hS2, hlocks, hr⟩, hX, hbl, a3, a1, a2⟩ hL 64 0 sig0 mu0 0 H ls (by omega) (by omega) (by decide) h0 hw1 hw2 ?_
  rw [e1, e2]
  exact lv_sub hl [3, 2, 1, 0] rfl
