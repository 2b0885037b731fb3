def LawSteps (Rel : Nat → Mem → Mem → Prop) : Prop :=
  (∀ (n : Nat) (σ μ : Mem) (p1 : Int64) (p3 : Int32), Rel (n + 1) σ μ → ∃ (r : Int32) (σ1 μ1 : Mem), f_X11_feed p1 p3 σ = some (r, σ1) ∧ f_X12_feed p1 p3 μ = some (r, μ1) ∧ Rel n σ1 μ1) ∧
  (∀ (n : Nat) (σ μ : Mem), Rel (n + 1) σ μ → ∃ (r : Int32) (σ1 μ1 : Mem), f_X11_mill  σ = some (r, σ1) ∧ f_X12_mill  μ = some (r, μ1) ∧ Rel n σ1 μ1) ∧
  (∀ (n : Nat) (σ μ : Mem) (p1 : Int32) (p2 : Int32) (p3 : Int32) (p4 : Int32) (p5 : Int32) (p6 : Int32), Rel (n + 1) σ μ → ∃ (r : Int32) (σ1 μ1 : Mem), f_X11_hour p1 p2 p3 p4 p5 p6 σ = some (r, σ1) ∧ f_X12_hour p1 p2 p3 p4 p5 p6 μ = some (r, μ1) ∧ Rel n σ1 μ1) ∧
  (∀ (n : Nat) (σ μ : Mem) (p1 : Int32) (p2 : Int32) (p3 : Int32) (p4 : Int32) (p5 : Int32) (p6 : Int32), Rel (n + 1) σ μ → ∃ (r : Int32) (σ1 μ1 : Mem), f_X11_wind p1 p2 p3 p4 p5 p6 σ = some (r, σ1) ∧ f_X12_wind p1 p2 p3 p4 p5 p6 μ = some (r, μ1) ∧ Rel n σ1 μ1) ∧
  (∀ (n : Nat) (σ μ : Mem) (p1 : Int32) (p2 : Int32), Rel (n + 1) σ μ → ∃ (r : Int32) (σ1 μ1 : Mem), f_X11_chance p1 p2 σ = some (r, σ1) ∧ f_X12_chance p1 p2 μ = some (r, μ1) ∧ Rel n σ1 μ1) ∧
  (∀ (n : Nat) (σ μ : Mem) (p1 : Int32), Rel (n + 1) σ μ → ∃ (r : Int32) (σ1 μ1 : Mem), f_X11_lead p1 σ = some (r, σ1) ∧ f_X12_lead p1 μ = some (r, μ1) ∧ Rel n σ1 μ1) ∧
  (∀ (n : Nat) (σ μ : Mem) (p1 : Int32), Rel (n + 1) σ μ → ∃ (r : Int32) (σ1 μ1 : Mem), f_X11_led p1 σ = some (r, σ1) ∧ f_X12_led p1 μ = some (r, μ1) ∧ Rel n σ1 μ1) ∧
  (∀ (n : Nat) (σ μ : Mem) (p1 : Int32) (p2 : Int32), Rel (n + 1) σ μ → ∃ (r : Int32) (σ1 μ1 : Mem), f_X11_go p1 p2 σ = some (r, σ1) ∧ f_X12_go p1 p2 μ = some (r, μ1) ∧ Rel n σ1 μ1) ∧
  (∀ (n : Nat) (σ μ : Mem) (p1 : Int32) (p2 : Int32), Rel (n + 1) σ μ → ∃ (r : Int32) (σ1 μ1 : Mem), f_X11_rule p1 p2 σ = some (r, σ1) ∧ f_X12_rule p1 p2 μ = some (r, μ1) ∧ Rel n σ1 μ1) ∧
  (∀ (n : Nat) (σ μ : Mem) (p1 : Int32) (p2 : Int32), Rel (n + 1) σ μ → ∃ (r : Int32) (σ1 μ1 : Mem), f_X11_row p1 p2 σ = some (r, σ1) ∧ f_X12_row p1 p2 μ = some (r, μ1) ∧ Rel n σ1 μ1) ∧
  (∀ (n : Nat) (σ μ : Mem) (p1 : Int32) (p2 : Int32) (p3 : Int32) (p4 : Int32) (p5 : Int32), Rel (n + 1) σ μ → ∃ (r : Int32) (σ1 μ1 : Mem), f_X11_sets p1 p2 p3 p4 p5 σ = some (r, σ1) ∧ f_X12_sets p1 p2 p3 p4 p5 μ = some (r, μ1) ∧ Rel n σ1 μ1) ∧
  (∀ (n : Nat) (σ μ : Mem) (p1 : Int32) (p2 : Int32) (p3 : Int32) (p4 : Int32), Rel (n + 1) σ μ → ∃ (r : Int64) (σ1 μ1 : Mem), f_X11_mean p1 p2 p3 p4 σ = some (r, σ1) ∧ f_X12_mean p1 p2 p3 p4 μ = some (r, μ1) ∧ Rel n σ1 μ1) ∧
  (∀ (n : Nat) (σ μ : Mem) (p1 : Int32) (p2 : Int32) (p3 : Int32), Rel (n + 1) σ μ → ∃ (r : Int64) (σ1 μ1 : Mem), f_X11_best p1 p2 p3 σ = some (r, σ1) ∧ f_X12_best p1 p2 p3 μ = some (r, μ1) ∧ Rel n σ1 μ1) ∧
  (∀ (n : Nat) (σ μ : Mem) (p1 : Int32) (p2 : Int32), Rel (n + 1) σ μ → ∃ (r : Int32) (σ1 μ1 : Mem), f_X11_dress p1 p2 σ = some (r, σ1) ∧ f_X12_dress p1 p2 μ = some (r, μ1) ∧ Rel n σ1 μ1) ∧
  (∀ (n : Nat) (σ μ : Mem) (p1 : Int32) (p2 : Int32), Rel (n + 1) σ μ → ∃ (r : Int32) (σ1 μ1 : Mem), f_X11_day p1 p2 σ = some (r, σ1) ∧ f_X12_day p1 p2 μ = some (r, μ1) ∧ Rel n σ1 μ1) ∧
  (∀ (n : Nat) (σ μ : Mem) (p1 : Int32), Rel (n + 1) σ μ → ∃ (r : Int32) (σ1 μ1 : Mem), f_X11_judged p1 σ = some (r, σ1) ∧ f_X12_judged p1 μ = some (r, μ1) ∧ Rel n σ1 μ1) ∧
  (∀ (n : Nat) (σ μ : Mem) (p1 : Int32) (p2 : Int32) (p3 : Int32), Rel (n + 1) σ μ → ∃ (r : Int32) (σ1 μ1 : Mem), f_X11_order p1 p2 p3 σ = some (r, σ1) ∧ f_X12_order p1 p2 p3 μ = some (r, μ1) ∧ Rel n σ1 μ1) ∧
  (∀ (n : Nat) (σ μ : Mem), Rel (n + 1) σ μ → ∃ (r : Int32) (σ1 μ1 : Mem), f_X11_take  σ = some (r, σ1) ∧ f_X12_take  μ = some (r, μ1) ∧ Rel n σ1 μ1) ∧
  (∀ (n : Nat) (σ μ : Mem) (p1 : Int32), Rel (n + 1) σ μ → ∃ (r : Int32) (σ1 μ1 : Mem), f_X11_late p1 σ = some (r, σ1) ∧ f_X12_late p1 μ = some (r, μ1) ∧ Rel n σ1 μ1) ∧
  (∀ (n : Nat) (σ μ : Mem) (p1 : Int32) (p2 : Int32) (p3 : Int32) (p4 : Int32) (p5 : Int32), Rel (n + 1) σ μ → ∃ (r : Int32) (σ1 μ1 : Mem), f_X11_ridge p1 p2 p3 p4 p5 σ = some (r, σ1) ∧ f_X12_ridge p1 p2 p3 p4 p5 μ = some (r, μ1) ∧ Rel n σ1 μ1) ∧
  (∀ (n : Nat) (σ μ : Mem) (p1 : Int32) (p2 : Int32) (p3 : Int32) (p4 : Int32), Rel (n + 1) σ μ → ∃ (r : Int64) (σ1 μ1 : Mem), f_X11_run p1 p2 p3 p4 σ = some (r, σ1) ∧ f_X12_run p1 p2 p3 p4 μ = some (r, μ1) ∧ Rel n σ1 μ1) ∧
  (∀ (n : Nat) (σ μ : Mem) (p1 : Int32) (p2 : Int32) (p3 : Int32), Rel (n + 1) σ μ → ∃ (r : Int32) (σ1 μ1 : Mem), f_X11_act p1 p2 p3 σ = some (r, σ1) ∧ f_X12_act p1 p2 p3 μ = some (r, μ1) ∧ Rel n σ1 μ1) ∧
  (∀ (n : Nat) (σ μ : Mem) (p1 : Int32), Rel (n + 1) σ μ → ∃ (r : Int32) (σ1 μ1 : Mem), f_X11_trace p1 σ = some (r, σ1) ∧ f_X12_trace p1 μ = some (r, μ1) ∧ Rel n σ1 μ1) ∧
  (∀ (n : Nat) (σ μ : Mem) (p1 : Int32) (p2 : Int32), Rel (n + 1) σ μ → ∃ (r : Int32) (σ1 μ1 : Mem), f_X11_as p1 p2 σ = some (r, σ1) ∧ f_X12_as p1 p2 μ = some (r, μ1) ∧ Rel n σ1 μ1) ∧
  (∀ (n : Nat) (σ μ : Mem), Rel (n + 1) σ μ → ∃ (r : Int32) (σ1 μ1 : Mem), f_X11_image  σ = some (r, σ1) ∧ f_X12_image  μ = some (r, μ1) ∧ Rel n σ1 μ1) ∧
  (∀ (n : Nat) (σ μ : Mem), Rel (n + 1) σ μ → ∃ (r : Int32) (σ1 μ1 : Mem), f_X11_undo  σ = some (r, σ1) ∧ f_X12_undo  μ = some (r, μ1) ∧ Rel n σ1 μ1) ∧
  (∀ (n : Nat) (σ μ : Mem) (p1 : Int32), Rel (n + 1) σ μ → ∃ (r : Int32) (σ1 μ1 : Mem), f_X11_count p1 σ = some (r, σ1) ∧ f_X12_count p1 μ = some (r, μ1) ∧ Rel n σ1 μ1)
def R_law : String := "MillWindLaw"
theorem lg_self (x : Int64) : lg_cmp x x = 0 := by
  unfold lg_cmp
  rw [if_neg (by simp), if_pos rfl]
/-- what holds all along the law's run: the two sides' contexts, the script, the two regions -/
def Lx (E1 E2 : EV) (p : Program) (s : State) (m : MethodId) (meth : Method) (c : Code) (b L : Nat) (xs : Nat → Int32) : Prop :=
  Cx E1 p s m #[Value.ref b] meth c code 4 ret RL ∧ Cx E2 p s m #[Value.ref b] meth c code 4 ret RL ∧ va_X b L xs s s.heap ∧ b < s.heap.size ∧ (∀ q, E1.2.2.1 q → ¬ E2.2.2.1 q) ∧ (∀ q, E1.2.2.1 q → s.heap.size ≤ q) ∧ (∀ q, E2.2.2.1 q → s.heap.size ≤ q)
section LAW
variable {p : Program} {l : Launch} {e : Env} {R : Room} {s : State} {m : MethodId} {below : List Frame} {meth : Method} {c : Code} {H : Heap} {cells slots : Nat} {Q : State → Prop} {args : Array Value}
variable {pc : Nat} {ls : Array Slot} {rest st0 : List Value} {E1 E2 : EV} {σ μ τ : Mem} {T1 T2 : List (Nat × Nat)}
theorem Wd.clear {T : List (Nat × Nat)} {E : EV} {σ : Mem} {H : Heap} {locs : List Loc} (h : Wd T E σ s H locs) : Wd T E σ s H [] := ⟨h.1, h.2.1, h.2.2.1, h.2.2.2.1, fun q hq => by cases hq⟩
/-- a call of one side leaves the other as it is -/
theorem Wd.other {H1 : Heap} (h : Wd T2 E2 μ s H []) (hdis : ∀ q, E1.2.2.1 q → ¬ E2.2.2.1 q) (hge : ∀ q, E1.2.2.1 q → s.heap.size ≤ q) (hk : ∀ q : Nat, q < H.size → ¬ E1.2.2.1 q → H1[q]? = H[q]?) (hz : H.size ≤ H1.size) : Wd T2 E2 μ s H1 [] := by
  obtain ⟨hP, hD, hS⟩ := h
  refine ⟨hP.kept (fun k q hq => hk q.1 (hP k q hq).lt (fun z => hdis q.1 z (hD.2 k q hq))), hD, Nat.le_trans hS.1 hz, fun q h1 h2 => ?_, fun q hq => by cases hq⟩
  rw [hk q (Nat.lt_of_lt_of_le h1 hS.1) (fun z => Nat.not_le.mpr h1 (hge q z))]
  exact hS.2.1 q h1 h2
theorem y_I {r : Int32} {a : Array Value} (hw1 : Wd T1 E1 σ s H []) (hw2 : Wd T2 E2 μ s H []) (hdis : ∀ q, E1.2.2.1 q → ¬ E2.2.2.1 q) (hge : ∀ q, E1.2.2.1 q → s.heap.size ≤ q) (hr : va_Run p l e R s m args below meth c H [] cells slots 0 0 (F0 m pc ls st0) rest (QI T1 E1 r τ a) E1.2.2.1)
    (kk : ∀ (H1 : Heap), Wd T1 E1 τ s H1 [] → Wd T2 E2 μ s H1 [] → W p l e R s m args below meth c H1 [] cells slots Q (F0 m (pc + 3) ls (.int r :: rest))) : W p l e R s m args below meth c H [] cells slots Q (F0 m pc ls st0) := by
  refine va_calli hr hw1.2.2 (fun q _ h => h) (fun q h => h) (fun r1 u t H1 locs1 ht hvm hq hB hz1 hk1 hS => ?_)
  obtain ⟨rfl, rfl⟩ := hq
  unfold Po at hB
  rw [ht] at hB
  refine va_forget (fun q hq => hge _ (hS.2.2 q hq)) ?_
  exact kk H1 (Wd.clear ⟨hB, wd_D _ _ hw1.2.1, hS⟩) (hw2.other hdis hge hk1 hz1)
theorem y_L {r : Int64} {a : Array Value} (hw1 : Wd T1 E1 σ s H []) (hw2 : Wd T2 E2 μ s H []) (hdis : ∀ q, E1.2.2.1 q → ¬ E2.2.2.1 q) (hge : ∀ q, E1.2.2.1 q → s.heap.size ≤ q) (hr : va_Run p l e R s m args below meth c H [] cells slots 0 0 (F0 m pc ls st0) rest (QL T1 E1 r τ a) E1.2.2.1)
    (kk : ∀ (H1 : Heap), Wd T1 E1 τ s H1 [] → Wd T2 E2 μ s H1 [] → W p l e R s m args below meth c H1 [] cells slots Q (F0 m (pc + 3) ls (.long r :: rest))) : W p l e R s m args below meth c H [] cells slots Q (F0 m pc ls st0) := by
  refine va_calll hr hw1.2.2 (fun q _ h => h) (fun q h => h) (fun r1 u t H1 locs1 ht hvm hq hB hz1 hk1 hS => ?_)
  obtain ⟨rfl, rfl⟩ := hq
  unfold Po at hB
  rw [ht] at hB
  refine va_forget (fun q hq => hge _ (hS.2.2 q hq)) ?_
  exact kk H1 (Wd.clear ⟨hB, wd_D _ _ hw1.2.1, hS⟩) (hw2.other hdis hge hk1 hz1)
end LAW
def lw_P (b : Addr) (xs : List Int32) (args : Array Value) (s : State) : Prop := args = #[.ref b] ∧ s.IntsAt b xs ∧ xs.length ≤ 448 ∧ (Jvm.Cond.and given_1 narrow_1).before args s = true
def lw_Q (_ : Array Value) (s : State) (o : Outcome) (t : State) : Prop := o = .returned (some (.int 1)) ∧ Framed s o t [] 600000 7302250
def lw_Z (below : List Frame) (a : Array Value) (s : State) : State → Prop := fun t => ∃ o, t.status = .running ∧ Ended t below o ∧ lw_Q a s o t
/-- the law's own end, with 1 on the stack, nothing written that was there before, its room as the claim has it -/
theorem lw_ret {p : Program} {l : Launch} {e : Env} {s : State} {m : MethodId} {below : List Frame} {meth : Method} {c : Code} {b : Nat} (hx : p.tables.exec = Jvm.exec) (hb : c.code = code) (hr : meth.sig.returnType = ret) (hlocks : meth.locks = false) {pc : Nat} {H : Heap} {ls : Array Slot} (hdg : decode code pc = .ok (.ireturn, 1)) : W p l e room_1 s m #[Value.ref b] below meth c H [] 600000 7302250 (lw_Z below #[Value.ref b] s) (F0 m pc ls [.int 1]) := by
  intro T hT X
  obtain ⟨fs, hret, hrun, hended, hW, hframe⟩ := X.leave (v := some (.int 1)) (hlocks := hlocks) (fun h => by rw [hr] at h; cases h)
  have hmeth' : T.vm.method? m = some meth := X.method'
  refine ⟨T.setFrames fs, ?_, .returned (some (.int 1)), hrun, hended, rfl, ⟨_, rfl⟩, hW, hframe⟩
  jvm_step X.here [X.here.top, hx, hb, hdg, hmeth', hr, ret, narrow_b1]
  (try refine ⟨rfl, ?_⟩); (try refine ⟨rfl, ?_⟩)
  first | (intro acts; rw [hret _ acts rfl rfl rfl]) | rw [hret _ _ rfl rfl rfl]
  exact Steps.refl _
/-- what holds at the law's entry: the machine, the code, the tables' words (any of lw_tbl by 'hts w (by decide +kernel)'), the script of L ints xs at the cell b, what the Statement gives of the start (any of its parts by flat_of_before) -/
def lw_At (p : Program) (s : State) (m : MethodId) (meth : Method) (c : Code) (b L : Nat) (xs : Nat → Int32) : Prop :=
  p.tables.exec = Jvm.exec ∧ c.code = code ∧ meth.sig.returnType = ret ∧ c.maxLocals = 4 ∧ s.vm.findClass R_law = some m.cls ∧ (∀ w ∈ lw_tbl, w.before #[Value.ref b] s = true) ∧ va_X b L xs s s.heap ∧ b < s.heap.size ∧ meth.locks = false ∧ (Jvm.Cond.and given_1 narrow_1).before #[Value.ref b] s = true
set_option maxHeartbeats 4000000 in
set_option maxRecDepth 100000 in
theorem lc_0 {Rel : Nat → Mem → Mem → Prop} (SF : LawSteps Rel) {p : Program} {l : Launch} {e : Env} {s : State} {m : MethodId} {below : List Frame} {meth : Method} {c : Code} {E1 E2 : EV} {b L : Nat} {xs : Nat → Int32} (X : Lx E1 E2 p s m meth c b L xs) {n : Nat} {σ μ : Mem} {x3 : Int32} (hi : vp_in x3 L ∧ vp_in (x3 + 1) L ∧ vp_in (x3 + 2) L ∧ vp_in (x3 + 3) L ∧ vp_in (x3 + 4) L ∧ vp_in (x3 + 5) L ∧ vp_in (x3 + 6) L) {H : Heap} {ls : Array Slot} (hR : Rel (n + 1) σ μ) (hw1 : Wd TC E1 σ s H []) (hw2 : Wd TM E2 μ s H []) (hl : lv_has ls 4 [(0, .ref b), (1, .ref (E1.2.1 0)), (2, .ref (E2.2.1 0)), (3, .int x3)])
    (hk : ∀ (σ μ : Mem) (H : Heap) (ls : Array Slot), Rel n σ μ → Wd TC E1 σ s H [] → Wd TM E2 μ s H [] → lv_has ls 4 [(0, .ref b), (1, .ref (E1.2.1 0)), (2, .ref (E2.2.1 0)), (3, .int x3)] → W p l e room_1 s m #[Value.ref b] below meth c H [] 99 155119 (lw_Z below #[Value.ref b] s) (F0 m 1154 ls [])) : W p l e room_1 s m #[Value.ref b] below meth c H [] 99 155119 (lw_Z below #[Value.ref b] s) (F0 m 156 ls []) := by
  obtain ⟨C1, C2, hX, hbl, hdis, hg1, hg2⟩ := X
  have hx := C1.1
  have hb := C1.2.1
  have hown := C1.2.2.2.1
  have hts := C1.2.2.2.2.1
  refine lv_aload_n hx hb dL_law_156 rfl (lv_at hl 1 rfl) ?_
  refine lv_aload_n hx hb dL_law_157 rfl (lv_at hl 0 rfl) ?_
  refine lv_iload_n hx hb dL_law_158 rfl (lv_at hl 3 rfl) ?_
  refine lv_iconst (v := 1) hx hb dL_law_159 (by decide) ?_
  refine lv_iadd hx hb dL_law_160 ?_
  refine va_sld hx hb hX hbl (fun z => Nat.not_le.mpr hbl (hg1 _ z)) hw1.2.2 hi.2.1 dL_law_161 ?_
  refine lv_i2l hx hb dL_law_162 rfl ?_
  refine lv_bipush (v := 32) hx hb dL_law_163 (by decide) ?_
  refine lv_lshl hx hb dL_law_165 rfl ?_
  refine lv_aload_n hx hb dL_law_166 rfl (lv_at hl 0 rfl) ?_
  refine lv_iload_n hx hb dL_law_167 rfl (lv_at hl 3 rfl) ?_
  refine lv_iconst (v := 2) hx hb dL_law_168 (by decide) ?_
  refine lv_iadd hx hb dL_law_169 ?_
  refine va_sld hx hb hX hbl (fun z => Nat.not_le.mpr hbl (hg1 _ z)) hw1.2.2 hi.2.2.1 dL_law_170 ?_
  refine lv_i2l hx hb dL_law_171 rfl ?_
  refine lv_ldc2 hx hb hown (hts _ kw_1461) dL_law_172 ?_
  refine lv_land hx hb dL_law_175 ?_
  refine lv_lor hx hb dL_law_176 ?_
  refine lv_aload_n hx hb dL_law_177 rfl (lv_at hl 0 rfl) ?_
  refine lv_iload_n hx hb dL_law_178 rfl (lv_at hl 3 rfl) ?_
  refine lv_iconst (v := 3) hx hb dL_law_179 (by decide) ?_
  refine lv_iadd hx hb dL_law_180 ?_
  refine va_sld hx hb hX hbl (fun z => Nat.not_le.mpr hbl (hg1 _ z)) hw1.2.2 hi.2.2.2.1 dL_law_181 ?_
  obtain ⟨r, σ1, μ1, h1, h2, hR1⟩ := SF.1 n σ μ (((xs (x3 + 1).toNatClampNeg).toInt64 <<< ((32 : Int32).toInt64 &&& 63)) ||| ((xs (x3 + 2).toNatClampNeg).toInt64 &&& (4294967295 : Int64))) (xs (x3 + 3).toNatClampNeg) hR
  refine y_I hw1 hw2 hdis hg1 (q_runV C1 hw1 hl.1 (As := [.long (((xs (x3 + 1).toNatClampNeg).toInt64 <<< ((32 : Int32).toInt64 &&& 63)) ||| ((xs (x3 + 2).toNatClampNeg).toInt64 &&& (4294967295 : Int64))), .int (xs (x3 + 3).toNatClampNeg)]) (rest := []) (m_X11_feed l E1 (((xs (x3 + 1).toNatClampNeg).toInt64 <<< ((32 : Int32).toInt64 &&& 63)) ||| ((xs (x3 + 2).toNatClampNeg).toInt64 &&& (4294967295 : Int64))) (xs (x3 + 3).toNatClampNeg) σ r σ1 h1) yq_X11_feed tC_0 rfl rfl kw_423 ⟨Nat.le_of_ble_eq_true rfl, Nat.le_of_ble_eq_true rfl⟩ rfl (Nat.le_of_ble_eq_true rfl) ⟨Nat.le_of_ble_eq_true rfl, Nat.le_of_ble_eq_true rfl⟩ dL_law_182) (fun H hw1 hw2 => ?_)
  refine lv_aload_n hx hb dL_law_185 rfl (lv_at hl 2 rfl) ?_
  refine lv_aload_n hx hb dL_law_186 rfl (lv_at hl 0 rfl) ?_
  refine lv_iload_n hx hb dL_law_187 rfl (lv_at hl 3 rfl) ?_
  refine lv_iconst (v := 1) hx hb dL_law_188 (by decide) ?_
  refine lv_iadd hx hb dL_law_189 ?_
  refine va_sld hx hb hX hbl (fun z => Nat.not_le.mpr hbl (hg1 _ z)) hw1.2.2 hi.2.1 dL_law_190 ?_
  refine lv_i2l hx hb dL_law_191 rfl ?_
  refine lv_bipush (v := 32) hx hb dL_law_192 (by decide) ?_
  refine lv_lshl hx hb dL_law_194 rfl ?_
  refine lv_aload_n hx hb dL_law_195 rfl (lv_at hl 0 rfl) ?_
  refine lv_iload_n hx hb dL_law_196 rfl (lv_at hl 3 rfl) ?_
  refine lv_iconst (v := 2) hx hb dL_law_197 (by decide) ?_
  refine lv_iadd hx hb dL_law_198 ?_
  refine va_sld hx hb hX hbl (fun z => Nat.not_le.mpr hbl (hg1 _ z)) hw1.2.2 hi.2.2.1 dL_law_199 ?_
  refine lv_i2l hx hb dL_law_200 rfl ?_
  refine lv_ldc2 hx hb hown (hts _ kw_1461) dL_law_201 ?_
  refine lv_land hx hb dL_law_204 ?_
  refine lv_lor hx hb dL_law_205 ?_
  refine lv_aload_n hx hb dL_law_206 rfl (lv_at hl 0 rfl) ?_
  refine lv_iload_n hx hb dL_law_207 rfl (lv_at hl 3 rfl) ?_
  refine lv_iconst (v := 3) hx hb dL_law_208 (by decide) ?_
  refine lv_iadd hx hb dL_law_209 ?_
  refine va_sld hx hb hX hbl (fun z => Nat.not_le.mpr hbl (hg1 _ z)) hw1.2.2 hi.2.2.2.1 dL_law_210 ?_
  refine y_I hw2 hw1 (fun q a b => hdis q b a) hg2 (q_runV C2 hw2 hl.1 (As := [.long (((xs (x3 + 1).toNatClampNeg).toInt64 <<< ((32 : Int32).toInt64 &&& 63)) ||| ((xs (x3 + 2).toNatClampNeg).toInt64 &&& (4294967295 : Int64))), .int (xs (x3 + 3).toNatClampNeg)]) (rest := [.int r]) (m_X12_feed l E2 (((xs (x3 + 1).toNatClampNeg).toInt64 <<< ((32 : Int32).toInt64 &&& 63)) ||| ((xs (x3 + 2).toNatClampNeg).toInt64 &&& (4294967295 : Int64))) (xs (x3 + 3).toNatClampNeg) μ r μ1 h2) yq_X12_feed tM_0 rfl rfl kw_1138 ⟨Nat.le_of_ble_eq_true rfl, Nat.le_of_ble_eq_true rfl⟩ rfl (Nat.le_of_ble_eq_true rfl) ⟨Nat.le_of_ble_eq_true rfl, Nat.le_of_ble_eq_true rfl⟩ dL_law_211) (fun H hw2 hw1 => ?_)
  refine lv_icmp_eq (tgt := 1154) hx hb dL_law_214 (by decide) (fun _ => ?_) (fun q => absurd rfl q)
  exact hk σ1 μ1 H ls hR1 hw1 hw2 hl
set_option maxHeartbeats 4000000 in
set_option maxRecDepth 100000 in
theorem lc_1 {Rel : Nat → Mem → Mem → Prop} (SF : LawSteps Rel) {p : Program} {l : Launch} {e : Env} {s : State} {m : MethodId} {below : List Frame} {meth : Method} {c : Code} {E1 E2 : EV} {b L : Nat} {xs : Nat → Int32} (X : Lx E1 E2 p s m meth c b L xs) {n : Nat} {σ μ : Mem} {x3 : Int32} (hi : vp_in x3 L ∧ vp_in (x3 + 1) L ∧ vp_in (x3 + 2) L ∧ vp_in (x3 + 3) L ∧ vp_in (x3 + 4) L ∧ vp_in (x3 + 5) L ∧ vp_in (x3 + 6) L) {H : Heap} {ls : Array Slot} (hR : Rel (n + 1) σ μ) (hw1 : Wd TC E1 σ s H []) (hw2 : Wd TM E2 μ s H []) (hl : lv_has ls 4 [(0, .ref b), (1, .ref (E1.2.1 0)), (2, .ref (E2.2.1 0)), (3, .int x3)])
    (hk : ∀ (σ μ : Mem) (H : Heap) (ls : Array Slot), Rel n σ μ → Wd TC E1 σ s H [] → Wd TM E2 μ s H [] → lv_has ls 4 [(0, .ref b), (1, .ref (E1.2.1 0)), (2, .ref (E2.2.1 0)), (3, .int x3)] → W p l e room_1 s m #[Value.ref b] below meth c H [] 99 155119 (lw_Z below #[Value.ref b] s) (F0 m 1154 ls [])) : W p l e room_1 s m #[Value.ref b] below meth c H [] 99 155119 (lw_Z below #[Value.ref b] s) (F0 m 219 ls []) := by
  obtain ⟨C1, C2, hX, hbl, hdis, hg1, hg2⟩ := X
  have hx := C1.1
  have hb := C1.2.1
  have hown := C1.2.2.2.1
  have hts := C1.2.2.2.2.1
  refine lv_aload_n hx hb dL_law_219 rfl (lv_at hl 1 rfl) ?_
  obtain ⟨r, σ1, μ1, h1, h2, hR1⟩ := SF.2.1 n σ μ  hR
  refine y_I hw1 hw2 hdis hg1 (q_runV C1 hw1 hl.1 (As := []) (rest := []) (m_X11_mill l E1  σ r σ1 h1) yq_X11_mill tC_0 rfl rfl kw_434 ⟨Nat.le_of_ble_eq_true rfl, Nat.le_of_ble_eq_true rfl⟩ rfl (Nat.le_of_ble_eq_true rfl) ⟨Nat.le_of_ble_eq_true rfl, Nat.le_of_ble_eq_true rfl⟩ dL_law_220) (fun H hw1 hw2 => ?_)
  refine lv_aload_n hx hb dL_law_223 rfl (lv_at hl 2 rfl) ?_
  refine y_I hw2 hw1 (fun q a b => hdis q b a) hg2 (q_runV C2 hw2 hl.1 (As := []) (rest := [.int r]) (m_X12_mill l E2  μ r μ1 h2) yq_X12_mill tM_0 rfl rfl kw_1146 ⟨Nat.le_of_ble_eq_true rfl, Nat.le_of_ble_eq_true rfl⟩ rfl (Nat.le_of_ble_eq_true rfl) ⟨Nat.le_of_ble_eq_true rfl, Nat.le_of_ble_eq_true rfl⟩ dL_law_224) (fun H hw2 hw1 => ?_)
  refine lv_icmp_eq (tgt := 1154) hx hb dL_law_227 (by decide) (fun _ => ?_) (fun q => absurd rfl q)
  exact hk σ1 μ1 H ls hR1 hw1 hw2 hl
set_option maxHeartbeats 4000000 in
set_option maxRecDepth 100000 in
theorem lc_2 {Rel : Nat → Mem → Mem → Prop} (SF : LawSteps Rel) {p : Program} {l : Launch} {e : Env} {s : State} {m : MethodId} {below : List Frame} {meth : Method} {c : Code} {E1 E2 : EV} {b L : Nat} {xs : Nat → Int32} (X : Lx E1 E2 p s m meth c b L xs) {n : Nat} {σ μ : Mem} {x3 : Int32} (hi : vp_in x3 L ∧ vp_in (x3 + 1) L ∧ vp_in (x3 + 2) L ∧ vp_in (x3 + 3) L ∧ vp_in (x3 + 4) L ∧ vp_in (x3 + 5) L ∧ vp_in (x3 + 6) L) {H : Heap} {ls : Array Slot} (hR : Rel (n + 1) σ μ) (hw1 : Wd TC E1 σ s H []) (hw2 : Wd TM E2 μ s H []) (hl : lv_has ls 4 [(0, .ref b), (1, .ref (E1.2.1 0)), (2, .ref (E2.2.1 0)), (3, .int x3)])
    (hk : ∀ (σ μ : Mem) (H : Heap) (ls : Array Slot), Rel n σ μ → Wd TC E1 σ s H [] → Wd TM E2 μ s H [] → lv_has ls 4 [(0, .ref b), (1, .ref (E1.2.1 0)), (2, .ref (E2.2.1 0)), (3, .int x3)] → W p l e room_1 s m #[Value.ref b] below meth c H [] 99 155119 (lw_Z below #[Value.ref b] s) (F0 m 1154 ls [])) : W p l e room_1 s m #[Value.ref b] below meth c H [] 99 155119 (lw_Z below #[Value.ref b] s) (F0 m 232 ls []) := by
  obtain ⟨C1, C2, hX, hbl, hdis, hg1, hg2⟩ := X
  have hx := C1.1
  have hb := C1.2.1
  have hown := C1.2.2.2.1
  have hts := C1.2.2.2.2.1
  refine lv_aload_n hx hb dL_law_232 rfl (lv_at hl 1 rfl) ?_
  refine lv_aload_n hx hb dL_law_233 rfl (lv_at hl 0 rfl) ?_
  refine lv_iload_n hx hb dL_law_234 rfl (lv_at hl 3 rfl) ?_
  refine lv_iconst (v := 1) hx hb dL_law_235 (by decide) ?_
  refine lv_iadd hx hb dL_law_236 ?_
  refine va_sld hx hb hX hbl (fun z => Nat.not_le.mpr hbl (hg1 _ z)) hw1.2.2 hi.2.1 dL_law_237 ?_
  refine lv_aload_n hx hb dL_law_238 rfl (lv_at hl 0 rfl) ?_
  refine lv_iload_n hx hb dL_law_239 rfl (lv_at hl 3 rfl) ?_
  refine lv_iconst (v := 2) hx hb dL_law_240 (by decide) ?_
  refine lv_iadd hx hb dL_law_241 ?_
  refine va_sld hx hb hX hbl (fun z => Nat.not_le.mpr hbl (hg1 _ z)) hw1.2.2 hi.2.2.1 dL_law_242 ?_
  refine lv_aload_n hx hb dL_law_243 rfl (lv_at hl 0 rfl) ?_
  refine lv_iload_n hx hb dL_law_244 rfl (lv_at hl 3 rfl) ?_
  refine lv_iconst (v := 3) hx hb dL_law_245 (by decide) ?_
  refine lv_iadd hx hb dL_law_246 ?_
  refine va_sld hx hb hX hbl (fun z => Nat.not_le.mpr hbl (hg1 _ z)) hw1.2.2 hi.2.2.2.1 dL_law_247 ?_
  refine lv_aload_n hx hb dL_law_248 rfl (lv_at hl 0 rfl) ?_
  refine lv_iload_n hx hb dL_law_249 rfl (lv_at hl 3 rfl) ?_
  refine lv_iconst (v := 4) hx hb dL_law_250 (by decide) ?_
  refine lv_iadd hx hb dL_law_251 ?_
  refine va_sld hx hb hX hbl (fun z => Nat.not_le.mpr hbl (hg1 _ z)) hw1.2.2 hi.2.2.2.2.1 dL_law_252 ?_
  refine lv_aload_n hx hb dL_law_253 rfl (lv_at hl 0 rfl) ?_
  refine lv_iload_n hx hb dL_law_254 rfl (lv_at hl 3 rfl) ?_
  refine lv_iconst (v := 5) hx hb dL_law_255 (by decide) ?_
  refine lv_iadd hx hb dL_law_256 ?_
  refine va_sld hx hb hX hbl (fun z => Nat.not_le.mpr hbl (hg1 _ z)) hw1.2.2 hi.2.2.2.2.2.1 dL_law_257 ?_
  refine lv_aload_n hx hb dL_law_258 rfl (lv_at hl 0 rfl) ?_
  refine lv_iload_n hx hb dL_law_259 rfl (lv_at hl 3 rfl) ?_
  refine lv_bipush (v := 6) hx hb dL_law_260 (by decide) ?_
  refine lv_iadd hx hb dL_law_262 ?_
  refine va_sld hx hb hX hbl (fun z => Nat.not_le.mpr hbl (hg1 _ z)) hw1.2.2 hi.2.2.2.2.2.2 dL_law_263 ?_
  obtain ⟨r, σ1, μ1, h1, h2, hR1⟩ := SF.2.2.1 n σ μ (xs (x3 + 1).toNatClampNeg) (xs (x3 + 2).toNatClampNeg) (xs (x3 + 3).toNatClampNeg) (xs (x3 + 4).toNatClampNeg) (xs (x3 + 5).toNatClampNeg) (xs (x3 + 6).toNatClampNeg) hR
  refine y_I hw1 hw2 hdis hg1 (q_runV C1 hw1 hl.1 (As := [.int (xs (x3 + 1).toNatClampNeg), .int (xs (x3 + 2).toNatClampNeg), .int (xs (x3 + 3).toNatClampNeg), .int (xs (x3 + 4).toNatClampNeg), .int (xs (x3 + 5).toNatClampNeg), .int (xs (x3 + 6).toNatClampNeg)]) (rest := []) (m_X11_hour l E1 (xs (x3 + 1).toNatClampNeg) (xs (x3 + 2).toNatClampNeg) (xs (x3 + 3).toNatClampNeg) (xs (x3 + 4).toNatClampNeg) (xs (x3 + 5).toNatClampNeg) (xs (x3 + 6).toNatClampNeg) σ r σ1 h1) yq_X11_hour tC_0 rfl rfl kw_608 ⟨Nat.le_of_ble_eq_true rfl, Nat.le_of_ble_eq_true rfl⟩ rfl (Nat.le_of_ble_eq_true rfl) ⟨Nat.le_of_ble_eq_true rfl, Nat.le_of_ble_eq_true rfl⟩ dL_law_264) (fun H hw1 hw2 => ?_)
  refine lv_aload_n hx hb dL_law_267 rfl (lv_at hl 2 rfl) ?_
  refine lv_aload_n hx hb dL_law_268 rfl (lv_at hl 0 rfl) ?_
  refine lv_iload_n hx hb dL_law_269 rfl (lv_at hl 3 rfl) ?_
  refine lv_iconst (v := 1) hx hb dL_law_270 (by decide) ?_
  refine lv_iadd hx hb dL_law_271 ?_
  refine va_sld hx hb hX hbl (fun z => Nat.not_le.mpr hbl (hg1 _ z)) hw1.2.2 hi.2.1 dL_law_272 ?_
  refine lv_aload_n hx hb dL_law_273 rfl (lv_at hl 0 rfl) ?_
  refine lv_iload_n hx hb dL_law_274 rfl (lv_at hl 3 rfl) ?_
  refine lv_iconst (v := 2) hx hb dL_law_275 (by decide) ?_
  refine lv_iadd hx hb dL_law_276 ?_
  refine va_sld hx hb hX hbl (fun z => Nat.not_le.mpr hbl (hg1 _ z)) hw1.2.2 hi.2.2.1 dL_law_277 ?_
  refine lv_aload_n hx hb dL_law_278 rfl (lv_at hl 0 rfl) ?_
  refine lv_iload_n hx hb dL_law_279 rfl (lv_at hl 3 rfl) ?_
  refine lv_iconst (v := 3) hx hb dL_law_280 (by decide) ?_
  refine lv_iadd hx hb dL_law_281 ?_
  refine va_sld hx hb hX hbl (fun z => Nat.not_le.mpr hbl (hg1 _ z)) hw1.2.2 hi.2.2.2.1 dL_law_282 ?_
  refine lv_aload_n hx hb dL_law_283 rfl (lv_at hl 0 rfl) ?_
  refine lv_iload_n hx hb dL_law_284 rfl (lv_at hl 3 rfl) ?_
  refine lv_iconst (v := 4) hx hb dL_law_285 (by decide) ?_
  refine lv_iadd hx hb dL_law_286 ?_
  refine va_sld hx hb hX hbl (fun z => Nat.not_le.mpr hbl (hg1 _ z)) hw1.2.2 hi.2.2.2.2.1 dL_law_287 ?_
  refine lv_aload_n hx hb dL_law_288 rfl (lv_at hl 0 rfl) ?_
  refine lv_iload_n hx hb dL_law_289 rfl (lv_at hl 3 rfl) ?_
  refine lv_iconst (v := 5) hx hb dL_law_290 (by decide) ?_
  refine lv_iadd hx hb dL_law_291 ?_
  refine va_sld hx hb hX hbl (fun z => Nat.not_le.mpr hbl (hg1 _ z)) hw1.2.2 hi.2.2.2.2.2.1 dL_law_292 ?_
  refine lv_aload_n hx hb dL_law_293 rfl (lv_at hl 0 rfl) ?_
  refine lv_iload_n hx hb dL_law_294 rfl (lv_at hl 3 rfl) ?_
  refine lv_bipush (v := 6) hx hb dL_law_295 (by decide) ?_
  refine lv_iadd hx hb dL_law_297 ?_
  refine va_sld hx hb hX hbl (fun z => Nat.not_le.mpr hbl (hg1 _ z)) hw1.2.2 hi.2.2.2.2.2.2 dL_law_298 ?_
  refine y_I hw2 hw1 (fun q a b => hdis q b a) hg2 (q_runV C2 hw2 hl.1 (As := [.int (xs (x3 + 1).toNatClampNeg), .int (xs (x3 + 2).toNatClampNeg), .int (xs (x3 + 3).toNatClampNeg), .int (xs (x3 + 4).toNatClampNeg), .int (xs (x3 + 5).toNatClampNeg), .int (xs (x3 + 6).toNatClampNeg)]) (rest := [.int r]) (m_X12_hour l E2 (xs (x3 + 1).toNatClampNeg) (xs (x3 + 2).toNatClampNeg) (xs (x3 + 3).toNatClampNeg) (xs (x3 + 4).toNatClampNeg) (xs (x3 + 5).toNatClampNeg) (xs (x3 + 6).toNatClampNeg) μ r μ1 h2) yq_X12_hour tM_0 rfl rfl kw_1209 ⟨Nat.le_of_ble_eq_true rfl, Nat.le_of_ble_eq_true rfl⟩ rfl (Nat.le_of_ble_eq_true rfl) ⟨Nat.le_of_ble_eq_true rfl, Nat.le_of_ble_eq_true rfl⟩ dL_law_299) (fun H hw2 hw1 => ?_)
  refine lv_icmp_eq (tgt := 1154) hx hb dL_law_302 (by decide) (fun _ => ?_) (fun q => absurd rfl q)
  exact hk σ1 μ1 H ls hR1 hw1 hw2 hl
set_option maxHeartbeats 4000000 in
set_option maxRecDepth 100000 in
theorem lc_3 {Rel : Nat → Mem → Mem → Prop} (SF : LawSteps Rel) {p : Program} {l : Launch} {e : Env} {s : State} {m : MethodId} {below : List Frame} {meth : Method} {c : Code} {E1 E2 : EV} {b L : Nat} {xs : Nat → Int32} (X : Lx E1 E2 p s m meth c b L xs) {n : Nat} {σ μ : Mem} {x3 : Int32} (hi : vp_in x3 L ∧ vp_in (x3 + 1) L ∧ vp_in (x3 + 2) L ∧ vp_in (x3 + 3) L ∧ vp_in (x3 + 4) L ∧ vp_in (x3 + 5) L ∧ vp_in (x3 + 6) L) {H : Heap} {ls : Array Slot} (hR : Rel (n + 1) σ μ) (hw1 : Wd TC E1 σ s H []) (hw2 : Wd TM E2 μ s H []) (hl : lv_has ls 4 [(0, .ref b), (1, .ref (E1.2.1 0)), (2, .ref (E2.2.1 0)), (3, .int x3)])
    (hk : ∀ (σ μ : Mem) (H : Heap) (ls : Array Slot), Rel n σ μ → Wd TC E1 σ s H [] → Wd TM E2 μ s H [] → lv_has ls 4 [(0, .ref b), (1, .ref (E1.2.1 0)), (2, .ref (E2.2.1 0)), (3, .int x3)] → W p l e room_1 s m #[Value.ref b] below meth c H [] 99 155119 (lw_Z below #[Value.ref b] s) (F0 m 1154 ls [])) : W p l e room_1 s m #[Value.ref b] below meth c H [] 99 155119 (lw_Z below #[Value.ref b] s) (F0 m 307 ls []) := by
  obtain ⟨C1, C2, hX, hbl, hdis, hg1, hg2⟩ := X
  have hx := C1.1
  have hb := C1.2.1
  have hown := C1.2.2.2.1
  have hts := C1.2.2.2.2.1
  refine lv_aload_n hx hb dL_law_307 rfl (lv_at hl 1 rfl) ?_
  refine lv_aload_n hx hb dL_law_308 rfl (lv_at hl 0 rfl) ?_
  refine lv_iload_n hx hb dL_law_309 rfl (lv_at hl 3 rfl) ?_
  refine lv_iconst (v := 1) hx hb dL_law_310 (by decide) ?_
  refine lv_iadd hx hb dL_law_311 ?_
  refine va_sld hx hb hX hbl (fun z => Nat.not_le.mpr hbl (hg1 _ z)) hw1.2.2 hi.2.1 dL_law_312 ?_
  refine lv_aload_n hx hb dL_law_313 rfl (lv_at hl 0 rfl) ?_
  refine lv_iload_n hx hb dL_law_314 rfl (lv_at hl 3 rfl) ?_
  refine lv_iconst (v := 2) hx hb dL_law_315 (by decide) ?_
  refine lv_iadd hx hb dL_law_316 ?_
  refine va_sld hx hb hX hbl (fun z => Nat.not_le.mpr hbl (hg1 _ z)) hw1.2.2 hi.2.2.1 dL_law_317 ?_
  refine lv_aload_n hx hb dL_law_318 rfl (lv_at hl 0 rfl) ?_
  refine lv_iload_n hx hb dL_law_319 rfl (lv_at hl 3 rfl) ?_
  refine lv_iconst (v := 3) hx hb dL_law_320 (by decide) ?_
  refine lv_iadd hx hb dL_law_321 ?_
  refine va_sld hx hb hX hbl (fun z => Nat.not_le.mpr hbl (hg1 _ z)) hw1.2.2 hi.2.2.2.1 dL_law_322 ?_
  refine lv_aload_n hx hb dL_law_323 rfl (lv_at hl 0 rfl) ?_
  refine lv_iload_n hx hb dL_law_324 rfl (lv_at hl 3 rfl) ?_
  refine lv_iconst (v := 4) hx hb dL_law_325 (by decide) ?_
  refine lv_iadd hx hb dL_law_326 ?_
  refine va_sld hx hb hX hbl (fun z => Nat.not_le.mpr hbl (hg1 _ z)) hw1.2.2 hi.2.2.2.2.1 dL_law_327 ?_
  refine lv_aload_n hx hb dL_law_328 rfl (lv_at hl 0 rfl) ?_
  refine lv_iload_n hx hb dL_law_329 rfl (lv_at hl 3 rfl) ?_
  refine lv_iconst (v := 5) hx hb dL_law_330 (by decide) ?_
  refine lv_iadd hx hb dL_law_331 ?_
  refine va_sld hx hb hX hbl (fun z => Nat.not_le.mpr hbl (hg1 _ z)) hw1.2.2 hi.2.2.2.2.2.1 dL_law_332 ?_
  refine lv_aload_n hx hb dL_law_333 rfl (lv_at hl 0 rfl) ?_
  refine lv_iload_n hx hb dL_law_334 rfl (lv_at hl 3 rfl) ?_
  refine lv_bipush (v := 6) hx hb dL_law_335 (by decide) ?_
  refine lv_iadd hx hb dL_law_337 ?_
  refine va_sld hx hb hX hbl (fun z => Nat.not_le.mpr hbl (hg1 _ z)) hw1.2.2 hi.2.2.2.2.2.2 dL_law_338 ?_
  obtain ⟨r, σ1, μ1, h1, h2, hR1⟩ := SF.2.2.2.1 n σ μ (xs (x3 + 1).toNatClampNeg) (xs (x3 + 2).toNatClampNeg) (xs (x3 + 3).toNatClampNeg) (xs (x3 + 4).toNatClampNeg) (xs (x3 + 5).toNatClampNeg) (xs (x3 + 6).toNatClampNeg) hR
  refine y_I hw1 hw2 hdis hg1 (q_runV C1 hw1 hl.1 (As := [.int (xs (x3 + 1).toNatClampNeg), .int (xs (x3 + 2).toNatClampNeg), .int (xs (x3 + 3).toNatClampNeg), .int (xs (x3 + 4).toNatClampNeg), .int (xs (x3 + 5).toNatClampNeg), .int (xs (x3 + 6).toNatClampNeg)]) (rest := []) (m_X11_wind l E1 (xs (x3 + 1).toNatClampNeg) (xs (x3 + 2).toNatClampNeg) (xs (x3 + 3).toNatClampNeg) (xs (x3 + 4).toNatClampNeg) (xs (x3 + 5).toNatClampNeg) (xs (x3 + 6).toNatClampNeg) σ r σ1 h1) yq_X11_wind tC_0 rfl rfl kw_664 ⟨Nat.le_of_ble_eq_true rfl, Nat.le_of_ble_eq_true rfl⟩ rfl (Nat.le_of_ble_eq_true rfl) ⟨Nat.le_of_ble_eq_true rfl, Nat.le_of_ble_eq_true rfl⟩ dL_law_339) (fun H hw1 hw2 => ?_)
  refine lv_aload_n hx hb dL_law_342 rfl (lv_at hl 2 rfl) ?_
  refine lv_aload_n hx hb dL_law_343 rfl (lv_at hl 0 rfl) ?_
  refine lv_iload_n hx hb dL_law_344 rfl (lv_at hl 3 rfl) ?_
  refine lv_iconst (v := 1) hx hb dL_law_345 (by decide) ?_
  refine lv_iadd hx hb dL_law_346 ?_
  refine va_sld hx hb hX hbl (fun z => Nat.not_le.mpr hbl (hg1 _ z)) hw1.2.2 hi.2.1 dL_law_347 ?_
  refine lv_aload_n hx hb dL_law_348 rfl (lv_at hl 0 rfl) ?_
  refine lv_iload_n hx hb dL_law_349 rfl (lv_at hl 3 rfl) ?_
  refine lv_iconst (v := 2) hx hb dL_law_350 (by decide) ?_
  refine lv_iadd hx hb dL_law_351 ?_
  refine va_sld hx hb hX hbl (fun z => Nat.not_le.mpr hbl (hg1 _ z)) hw1.2.2 hi.2.2.1 dL_law_352 ?_
  refine lv_aload_n hx hb dL_law_353 rfl (lv_at hl 0 rfl) ?_
  refine lv_iload_n hx hb dL_law_354 rfl (lv_at hl 3 rfl) ?_
  refine lv_iconst (v := 3) hx hb dL_law_355 (by decide) ?_
  refine lv_iadd hx hb dL_law_356 ?_
  refine va_sld hx hb hX hbl (fun z => Nat.not_le.mpr hbl (hg1 _ z)) hw1.2.2 hi.2.2.2.1 dL_law_357 ?_
  refine lv_aload_n hx hb dL_law_358 rfl (lv_at hl 0 rfl) ?_
  refine lv_iload_n hx hb dL_law_359 rfl (lv_at hl 3 rfl) ?_
  refine lv_iconst (v := 4) hx hb dL_law_360 (by decide) ?_
  refine lv_iadd hx hb dL_law_361 ?_
  refine va_sld hx hb hX hbl (fun z => Nat.not_le.mpr hbl (hg1 _ z)) hw1.2.2 hi.2.2.2.2.1 dL_law_362 ?_
  refine lv_aload_n hx hb dL_law_363 rfl (lv_at hl 0 rfl) ?_
  refine lv_iload_n hx hb dL_law_364 rfl (lv_at hl 3 rfl) ?_
  refine lv_iconst (v := 5) hx hb dL_law_365 (by decide) ?_
  refine lv_iadd hx hb dL_law_366 ?_
  refine va_sld hx hb hX hbl (fun z => Nat.not_le.mpr hbl (hg1 _ z)) hw1.2.2 hi.2.2.2.2.2.1 dL_law_367 ?_
  refine lv_aload_n hx hb dL_law_368 rfl (lv_at hl 0 rfl) ?_
  refine lv_iload_n hx hb dL_law_369 rfl (lv_at hl 3 rfl) ?_
  refine lv_bipush (v := 6) hx hb dL_law_370 (by decide) ?_
  refine lv_iadd hx hb dL_law_372 ?_
  refine va_sld hx hb hX hbl (fun z => Nat.not_le.mpr hbl (hg1 _ z)) hw1.2.2 hi.2.2.2.2.2.2 dL_law_373 ?_
  refine y_I hw2 hw1 (fun q a b => hdis q b a) hg2 (q_runV C2 hw2 hl.1 (As := [.int (xs (x3 + 1).toNatClampNeg), .int (xs (x3 + 2).toNatClampNeg), .int (xs (x3 + 3).toNatClampNeg), .int (xs (x3 + 4).toNatClampNeg), .int (xs (x3 + 5).toNatClampNeg), .int (xs (x3 + 6).toNatClampNeg)]) (rest := [.int r]) (m_X12_wind l E2 (xs (x3 + 1).toNatClampNeg) (xs (x3 + 2).toNatClampNeg) (xs (x3 + 3).toNatClampNeg) (xs (x3 + 4).toNatClampNeg) (xs (x3 + 5).toNatClampNeg) (xs (x3 + 6).toNatClampNeg) μ r μ1 h2) yq_X12_wind tM_0 rfl rfl kw_1235 ⟨Nat.le_of_ble_eq_true rfl, Nat.le_of_ble_eq_true rfl⟩ rfl (Nat.le_of_ble_eq_true rfl) ⟨Nat.le_of_ble_eq_true rfl, Nat.le_of_ble_eq_true rfl⟩ dL_law_374) (fun H hw2 hw1 => ?_)
  refine lv_icmp_eq (tgt := 1154) hx hb dL_law_377 (by decide) (fun _ => ?_) (fun q => absurd rfl q)
  exact hk σ1 μ1 H ls hR1 hw1 hw2 hl
set_option maxHeartbeats 4000000 in
set_option maxRecDepth 100000 in
theorem lc_4 {Rel : Nat → Mem → Mem → Prop} (SF : LawSteps Rel) {p : Program} {l : Launch} {e : Env} {s : State} {m : MethodId} {below : List Frame} {meth : Method} {c : Code} {E1 E2 : EV} {b L : Nat} {xs : Nat → Int32} (X : Lx E1 E2 p s m meth c b L xs) {n : Nat} {σ μ : Mem} {x3 : Int32} (hi : vp_in x3 L ∧ vp_in (x3 + 1) L ∧ vp_in (x3 + 2) L ∧ vp_in (x3 + 3) L ∧ vp_in (x3 + 4) L ∧ vp_in (x3 + 5) L ∧ vp_in (x3 + 6) L) {H : Heap} {ls : Array Slot} (hR : Rel (n + 1) σ μ) (hw1 : Wd TC E1 σ s H []) (hw2 : Wd TM E2 μ s H []) (hl : lv_has ls 4 [(0, .ref b), (1, .ref (E1.2.1 0)), (2, .ref (E2.2.1 0)), (3, .int x3)])
    (hk : ∀ (σ μ : Mem) (H : Heap) (ls : Array Slot), Rel n σ μ → Wd TC E1 σ s H [] → Wd TM E2 μ s H [] → lv_has ls 4 [(0, .ref b), (1, .ref (E1.2.1 0)), (2, .ref (E2.2.1 0)), (3, .int x3)] → W p l e room_1 s m #[Value.ref b] below meth c H [] 99 155119 (lw_Z below #[Value.ref b] s) (F0 m 1154 ls [])) : W p l e room_1 s m #[Value.ref b] below meth c H [] 99 155119 (lw_Z below #[Value.ref b] s) (F0 m 382 ls []) := by
  obtain ⟨C1, C2, hX, hbl, hdis, hg1, hg2⟩ := X
  have hx := C1.1
  have hb := C1.2.1
  have hown := C1.2.2.2.1
  have hts := C1.2.2.2.2.1
  refine lv_aload_n hx hb dL_law_382 rfl (lv_at hl 1 rfl) ?_
  refine lv_aload_n hx hb dL_law_383 rfl (lv_at hl 0 rfl) ?_
  refine lv_iload_n hx hb dL_law_384 rfl (lv_at hl 3 rfl) ?_
  refine lv_iconst (v := 1) hx hb dL_law_385 (by decide) ?_
  refine lv_iadd hx hb dL_law_386 ?_
  refine va_sld hx hb hX hbl (fun z => Nat.not_le.mpr hbl (hg1 _ z)) hw1.2.2 hi.2.1 dL_law_387 ?_
  refine lv_aload_n hx hb dL_law_388 rfl (lv_at hl 0 rfl) ?_
  refine lv_iload_n hx hb dL_law_389 rfl (lv_at hl 3 rfl) ?_
  refine lv_iconst (v := 2) hx hb dL_law_390 (by decide) ?_
  refine lv_iadd hx hb dL_law_391 ?_
  refine va_sld hx hb hX hbl (fun z => Nat.not_le.mpr hbl (hg1 _ z)) hw1.2.2 hi.2.2.1 dL_law_392 ?_
  obtain ⟨r, σ1, μ1, h1, h2, hR1⟩ := SF.2.2.2.2.1 n σ μ (xs (x3 + 1).toNatClampNeg) (xs (x3 + 2).toNatClampNeg) hR
  refine y_I hw1 hw2 hdis hg1 (q_runV C1 hw1 hl.1 (As := [.int (xs (x3 + 1).toNatClampNeg), .int (xs (x3 + 2).toNatClampNeg)]) (rest := []) (m_X11_chance l E1 (xs (x3 + 1).toNatClampNeg) (xs (x3 + 2).toNatClampNeg) σ r σ1 h1) yq_X11_chance tC_0 rfl rfl kw_679 ⟨Nat.le_of_ble_eq_true rfl, Nat.le_of_ble_eq_true rfl⟩ rfl (Nat.le_of_ble_eq_true rfl) ⟨Nat.le_of_ble_eq_true rfl, Nat.le_of_ble_eq_true rfl⟩ dL_law_393) (fun H hw1 hw2 => ?_)
  refine lv_aload_n hx hb dL_law_396 rfl (lv_at hl 2 rfl) ?_
  refine lv_aload_n hx hb dL_law_397 rfl (lv_at hl 0 rfl) ?_
  refine lv_iload_n hx hb dL_law_398 rfl (lv_at hl 3 rfl) ?_
  refine lv_iconst (v := 1) hx hb dL_law_399 (by decide) ?_
  refine lv_iadd hx hb dL_law_400 ?_
  refine va_sld hx hb hX hbl (fun z => Nat.not_le.mpr hbl (hg1 _ z)) hw1.2.2 hi.2.1 dL_law_401 ?_
  refine lv_aload_n hx hb dL_law_402 rfl (lv_at hl 0 rfl) ?_
  refine lv_iload_n hx hb dL_law_403 rfl (lv_at hl 3 rfl) ?_
  refine lv_iconst (v := 2) hx hb dL_law_404 (by decide) ?_
  refine lv_iadd hx hb dL_law_405 ?_
  refine va_sld hx hb hX hbl (fun z => Nat.not_le.mpr hbl (hg1 _ z)) hw1.2.2 hi.2.2.1 dL_law_406 ?_
  refine y_I hw2 hw1 (fun q a b => hdis q b a) hg2 (q_runV C2 hw2 hl.1 (As := [.int (xs (x3 + 1).toNatClampNeg), .int (xs (x3 + 2).toNatClampNeg)]) (rest := [.int r]) (m_X12_chance l E2 (xs (x3 + 1).toNatClampNeg) (xs (x3 + 2).toNatClampNeg) μ r μ1 h2) yq_X12_chance tM_0 rfl rfl kw_1239 ⟨Nat.le_of_ble_eq_true rfl, Nat.le_of_ble_eq_true rfl⟩ rfl (Nat.le_of_ble_eq_true rfl) ⟨Nat.le_of_ble_eq_true rfl, Nat.le_of_ble_eq_true rfl⟩ dL_law_407) (fun H hw2 hw1 => ?_)
  refine lv_icmp_eq (tgt := 1154) hx hb dL_law_410 (by decide) (fun _ => ?_) (fun q => absurd rfl q)
  exact hk σ1 μ1 H ls hR1 hw1 hw2 hl
set_option maxHeartbeats 4000000 in
set_option maxRecDepth 100000 in
theorem lc_5 {Rel : Nat → Mem → Mem → Prop} (SF : LawSteps Rel) {p : Program} {l : Launch} {e : Env} {s : State} {m : MethodId} {below : List Frame} {meth : Method} {c : Code} {E1 E2 : EV} {b L : Nat} {xs : Nat → Int32} (X : Lx E1 E2 p s m meth c b L xs) {n : Nat} {σ μ : Mem} {x3 : Int32} (hi : vp_in x3 L ∧ vp_in (x3 + 1) L ∧ vp_in (x3 + 2) L ∧ vp_in (x3 + 3) L ∧ vp_in (x3 + 4) L ∧ vp_in (x3 + 5) L ∧ vp_in (x3 + 6) L) {H : Heap} {ls : Array Slot} (hR : Rel (n + 1) σ μ) (hw1 : Wd TC E1 σ s H []) (hw2 : Wd TM E2 μ s H []) (hl : lv_has ls 4 [(0, .ref b), (1, .ref (E1.2.1 0)), (2, .ref (E2.2.1 0)), (3, .int x3)])
    (hk : ∀ (σ μ : Mem) (H : Heap) (ls : Array Slot), Rel n σ μ → Wd TC E1 σ s H [] → Wd TM E2 μ s H [] → lv_has ls 4 [(0, .ref b), (1, .ref (E1.2.1 0)), (2, .ref (E2.2.1 0)), (3, .int x3)] → W p l e room_1 s m #[Value.ref b] below meth c H [] 99 155119 (lw_Z below #[Value.ref b] s) (F0 m 1154 ls [])) : W p l e room_1 s m #[Value.ref b] below meth c H [] 99 155119 (lw_Z below #[Value.ref b] s) (F0 m 415 ls []) := by
  obtain ⟨C1, C2, hX, hbl, hdis, hg1, hg2⟩ := X
  have hx := C1.1
  have hb := C1.2.1
  have hown := C1.2.2.2.1
  have hts := C1.2.2.2.2.1
  refine lv_aload_n hx hb dL_law_415 rfl (lv_at hl 1 rfl) ?_
  refine lv_aload_n hx hb dL_law_416 rfl (lv_at hl 0 rfl) ?_
  refine lv_iload_n hx hb dL_law_417 rfl (lv_at hl 3 rfl) ?_
  refine lv_iconst (v := 1) hx hb dL_law_418 (by decide) ?_
  refine lv_iadd hx hb dL_law_419 ?_
  refine va_sld hx hb hX hbl (fun z => Nat.not_le.mpr hbl (hg1 _ z)) hw1.2.2 hi.2.1 dL_law_420 ?_
  obtain ⟨r, σ1, μ1, h1, h2, hR1⟩ := SF.2.2.2.2.2.1 n σ μ (xs (x3 + 1).toNatClampNeg) hR
  refine y_I hw1 hw2 hdis hg1 (q_runV C1 hw1 hl.1 (As := [.int (xs (x3 + 1).toNatClampNeg)]) (rest := []) (m_X11_lead l E1 (xs (x3 + 1).toNatClampNeg) σ r σ1 h1) yq_X11_lead tC_0 rfl rfl kw_687 ⟨Nat.le_of_ble_eq_true rfl, Nat.le_of_ble_eq_true rfl⟩ rfl (Nat.le_of_ble_eq_true rfl) ⟨Nat.le_of_ble_eq_true rfl, Nat.le_of_ble_eq_true rfl⟩ dL_law_421) (fun H hw1 hw2 => ?_)
  refine lv_aload_n hx hb dL_law_424 rfl (lv_at hl 2 rfl) ?_
  refine lv_aload_n hx hb dL_law_425 rfl (lv_at hl 0 rfl) ?_
  refine lv_iload_n hx hb dL_law_426 rfl (lv_at hl 3 rfl) ?_
  refine lv_iconst (v := 1) hx hb dL_law_427 (by decide) ?_
  refine lv_iadd hx hb dL_law_428 ?_
  refine va_sld hx hb hX hbl (fun z => Nat.not_le.mpr hbl (hg1 _ z)) hw1.2.2 hi.2.1 dL_law_429 ?_
  refine y_I hw2 hw1 (fun q a b => hdis q b a) hg2 (q_runV C2 hw2 hl.1 (As := [.int (xs (x3 + 1).toNatClampNeg)]) (rest := [.int r]) (m_X12_lead l E2 (xs (x3 + 1).toNatClampNeg) μ r μ1 h2) yq_X12_lead tM_0 rfl rfl kw_1243 ⟨Nat.le_of_ble_eq_true rfl, Nat.le_of_ble_eq_true rfl⟩ rfl (Nat.le_of_ble_eq_true rfl) ⟨Nat.le_of_ble_eq_true rfl, Nat.le_of_ble_eq_true rfl⟩ dL_law_430) (fun H hw2 hw1 => ?_)
  refine lv_icmp_eq (tgt := 1154) hx hb dL_law_433 (by decide) (fun _ => ?_) (fun q => absurd rfl q)
  exact hk σ1 μ1 H ls hR1 hw1 hw2 hl
set_option maxHeartbeats 4000000 in
set_option maxRecDepth 100000 in
theorem lc_6 {Rel : Nat → Mem → Mem → Prop} (SF : LawSteps Rel) {p : Program} {l : Launch} {e : Env} {s : State} {m : MethodId} {below : List Frame} {meth : Method} {c : Code} {E1 E2 : EV} {b L : Nat} {xs : Nat → Int32} (X : Lx E1 E2 p s m meth c b L xs) {n : Nat} {σ μ : Mem} {x3 : Int32} (hi : vp_in x3 L ∧ vp_in (x3 + 1) L ∧ vp_in (x3 + 2) L ∧ vp_in (x3 + 3) L ∧ vp_in (x3 + 4) L ∧ vp_in (x3 + 5) L ∧ vp_in (x3 + 6) L) {H : Heap} {ls : Array Slot} (hR : Rel (n + 1) σ μ) (hw1 : Wd TC E1 σ s H []) (hw2 : Wd TM E2 μ s H []) (hl : lv_has ls 4 [(0, .ref b), (1, .ref (E1.2.1 0)), (2, .ref (E2.2.1 0)), (3, .int x3)])
    (hk : ∀ (σ μ : Mem) (H : Heap) (ls : Array Slot), Rel n σ μ → Wd TC E1 σ s H [] → Wd TM E2 μ s H [] → lv_has ls 4 [(0, .ref b), (1, .ref (E1.2.1 0)), (2, .ref (E2.2.1 0)), (3, .int x3)] → W p l e room_1 s m #[Value.ref b] below meth c H [] 99 155119 (lw_Z below #[Value.ref b] s) (F0 m 1154 ls [])) : W p l e room_1 s m #[Value.ref b] below meth c H [] 99 155119 (lw_Z below #[Value.ref b] s) (F0 m 438 ls []) := by
  obtain ⟨C1, C2, hX, hbl, hdis, hg1, hg2⟩ := X
  have hx := C1.1
  have hb := C1.2.1
  have hown := C1.2.2.2.1
  have hts := C1.2.2.2.2.1
  refine lv_aload_n hx hb dL_law_438 rfl (lv_at hl 1 rfl) ?_
  refine lv_aload_n hx hb dL_law_439 rfl (lv_at hl 0 rfl) ?_
  refine lv_iload_n hx hb dL_law_440 rfl (lv_at hl 3 rfl) ?_
  refine lv_iconst (v := 1) hx hb dL_law_441 (by decide) ?_
  refine lv_iadd hx hb dL_law_442 ?_
  refine va_sld hx hb hX hbl (fun z => Nat.not_le.mpr hbl (hg1 _ z)) hw1.2.2 hi.2.1 dL_law_443 ?_
  obtain ⟨r, σ1, μ1, h1, h2, hR1⟩ := SF.2.2.2.2.2.2.1 n σ μ (xs (x3 + 1).toNatClampNeg) hR
  refine y_I hw1 hw2 hdis hg1 (q_runV C1 hw1 hl.1 (As := [.int (xs (x3 + 1).toNatClampNeg)]) (rest := []) (m_X11_led l E1 (xs (x3 + 1).toNatClampNeg) σ r σ1 h1) yq_X11_led tC_0 rfl rfl kw_695 ⟨Nat.le_of_ble_eq_true rfl, Nat.le_of_ble_eq_true rfl⟩ rfl (Nat.le_of_ble_eq_true rfl) ⟨Nat.le_of_ble_eq_true rfl, Nat.le_of_ble_eq_true rfl⟩ dL_law_444) (fun H hw1 hw2 => ?_)
  refine lv_aload_n hx hb dL_law_447 rfl (lv_at hl 2 rfl) ?_
  refine lv_aload_n hx hb dL_law_448 rfl (lv_at hl 0 rfl) ?_
  refine lv_iload_n hx hb dL_law_449 rfl (lv_at hl 3 rfl) ?_
  refine lv_iconst (v := 1) hx hb dL_law_450 (by decide) ?_
  refine lv_iadd hx hb dL_law_451 ?_
  refine va_sld hx hb hX hbl (fun z => Nat.not_le.mpr hbl (hg1 _ z)) hw1.2.2 hi.2.1 dL_law_452 ?_
  refine y_I hw2 hw1 (fun q a b => hdis q b a) hg2 (q_runV C2 hw2 hl.1 (As := [.int (xs (x3 + 1).toNatClampNeg)]) (rest := [.int r]) (m_X12_led l E2 (xs (x3 + 1).toNatClampNeg) μ r μ1 h2) yq_X12_led tM_0 rfl rfl kw_1247 ⟨Nat.le_of_ble_eq_true rfl, Nat.le_of_ble_eq_true rfl⟩ rfl (Nat.le_of_ble_eq_true rfl) ⟨Nat.le_of_ble_eq_true rfl, Nat.le_of_ble_eq_true rfl⟩ dL_law_453) (fun H hw2 hw1 => ?_)
  refine lv_icmp_eq (tgt := 1154) hx hb dL_law_456 (by decide) (fun _ => ?_) (fun q => absurd rfl q)
  exact hk σ1 μ1 H ls hR1 hw1 hw2 hl
set_option maxHeartbeats 4000000 in
set_option maxRecDepth 100000 in
theorem lc_7 {Rel : Nat → Mem → Mem → Prop} (SF : LawSteps Rel) {p : Program} {l : Launch} {e : Env} {s : State} {m : MethodId} {below : List Frame} {meth : Method} {c : Code} {E1 E2 : EV} {b L : Nat} {xs : Nat → Int32} (X : Lx E1 E2 p s m meth c b L xs) {n : Nat} {σ μ : Mem} {x3 : Int32} (hi : vp_in x3 L ∧ vp_in (x3 + 1) L ∧ vp_in (x3 + 2) L ∧ vp_in (x3 + 3) L ∧ vp_in (x3 + 4) L ∧ vp_in (x3 + 5) L ∧ vp_in (x3 + 6) L) {H : Heap} {ls : Array Slot} (hR : Rel (n + 1) σ μ) (hw1 : Wd TC E1 σ s H []) (hw2 : Wd TM E2 μ s H []) (hl : lv_has ls 4 [(0, .ref b), (1, .ref (E1.2.1 0)), (2, .ref (E2.2.1 0)), (3, .int x3)])
    (hk : ∀ (σ μ : Mem) (H : Heap) (ls : Array Slot), Rel n σ μ → Wd TC E1 σ s H [] → Wd TM E2 μ s H [] → lv_has ls 4 [(0, .ref b), (1, .ref (E1.2.1 0)), (2, .ref (E2.2.1 0)), (3, .int x3)] → W p l e room_1 s m #[Value.ref b] below meth c H [] 99 155119 (lw_Z below #[Value.ref b] s) (F0 m 1154 ls [])) : W p l e room_1 s m #[Value.ref b] below meth c H [] 99 155119 (lw_Z below #[Value.ref b] s) (F0 m 461 ls []) := by
  obtain ⟨C1, C2, hX, hbl, hdis, hg1, hg2⟩ := X
  have hx := C1.1
  have hb := C1.2.1
  have hown := C1.2.2.2.1
  have hts := C1.2.2.2.2.1
  refine lv_aload_n hx hb dL_law_461 rfl (lv_at hl 1 rfl) ?_
  refine lv_aload_n hx hb dL_law_462 rfl (lv_at hl 0 rfl) ?_
  refine lv_iload_n hx hb dL_law_463 rfl (lv_at hl 3 rfl) ?_
  refine lv_iconst (v := 1) hx hb dL_law_464 (by decide) ?_
  refine lv_iadd hx hb dL_law_465 ?_
  refine va_sld hx hb hX hbl (fun z => Nat.not_le.mpr hbl (hg1 _ z)) hw1.2.2 hi.2.1 dL_law_466 ?_
  refine lv_aload_n hx hb dL_law_467 rfl (lv_at hl 0 rfl) ?_
  refine lv_iload_n hx hb dL_law_468 rfl (lv_at hl 3 rfl) ?_
  refine lv_iconst (v := 2) hx hb dL_law_469 (by decide) ?_
  refine lv_iadd hx hb dL_law_470 ?_
  refine va_sld hx hb hX hbl (fun z => Nat.not_le.mpr hbl (hg1 _ z)) hw1.2.2 hi.2.2.1 dL_law_471 ?_
  obtain ⟨r, σ1, μ1, h1, h2, hR1⟩ := SF.2.2.2.2.2.2.2.1 n σ μ (xs (x3 + 1).toNatClampNeg) (xs (x3 + 2).toNatClampNeg) hR
  refine y_I hw1 hw2 hdis hg1 (q_runV C1 hw1 hl.1 (As := [.int (xs (x3 + 1).toNatClampNeg), .int (xs (x3 + 2).toNatClampNeg)]) (rest := []) (m_X11_go l E1 (xs (x3 + 1).toNatClampNeg) (xs (x3 + 2).toNatClampNeg) σ r σ1 h1) yq_X11_go tC_0 rfl rfl kw_703 ⟨Nat.le_of_ble_eq_true rfl, Nat.le_of_ble_eq_true rfl⟩ rfl (Nat.le_of_ble_eq_true rfl) ⟨Nat.le_of_ble_eq_true rfl, Nat.le_of_ble_eq_true rfl⟩ dL_law_472) (fun H hw1 hw2 => ?_)
  refine lv_aload_n hx hb dL_law_475 rfl (lv_at hl 2 rfl) ?_
  refine lv_aload_n hx hb dL_law_476 rfl (lv_at hl 0 rfl) ?_
  refine lv_iload_n hx hb dL_law_477 rfl (lv_at hl 3 rfl) ?_
  refine lv_iconst (v := 1) hx hb dL_law_478 (by decide) ?_
  refine lv_iadd hx hb dL_law_479 ?_
  refine va_sld hx hb hX hbl (fun z => Nat.not_le.mpr hbl (hg1 _ z)) hw1.2.2 hi.2.1 dL_law_480 ?_
  refine lv_aload_n hx hb dL_law_481 rfl (lv_at hl 0 rfl) ?_
  refine lv_iload_n hx hb dL_law_482 rfl (lv_at hl 3 rfl) ?_
  refine lv_iconst (v := 2) hx hb dL_law_483 (by decide) ?_
  refine lv_iadd hx hb dL_law_484 ?_
  refine va_sld hx hb hX hbl (fun z => Nat.not_le.mpr hbl (hg1 _ z)) hw1.2.2 hi.2.2.1 dL_law_485 ?_
  refine y_I hw2 hw1 (fun q a b => hdis q b a) hg2 (q_runV C2 hw2 hl.1 (As := [.int (xs (x3 + 1).toNatClampNeg), .int (xs (x3 + 2).toNatClampNeg)]) (rest := [.int r]) (m_X12_go l E2 (xs (x3 + 1).toNatClampNeg) (xs (x3 + 2).toNatClampNeg) μ r μ1 h2) yq_X12_go tM_0 rfl rfl kw_1255 ⟨Nat.le_of_ble_eq_true rfl, Nat.le_of_ble_eq_true rfl⟩ rfl (Nat.le_of_ble_eq_true rfl) ⟨Nat.le_of_ble_eq_true rfl, Nat.le_of_ble_eq_true rfl⟩ dL_law_486) (fun H hw2 hw1 => ?_)
  refine lv_icmp_eq (tgt := 1154) hx hb dL_law_489 (by decide) (fun _ => ?_) (fun q => absurd rfl q)
  exact hk σ1 μ1 H ls hR1 hw1 hw2 hl
set_option maxHeartbeats 4000000 in
set_option maxRecDepth 100000 in
theorem lc_8 {Rel : Nat → Mem → Mem → Prop} (SF : LawSteps Rel) {p : Program} {l : Launch} {e : Env} {s : State} {m : MethodId} {below : List Frame} {meth : Method} {c : Code} {E1 E2 : EV} {b L : Nat} {xs : Nat → Int32} (X : Lx E1 E2 p s m meth c b L xs) {n : Nat} {σ μ : Mem} {x3 : Int32} (hi : vp_in x3 L ∧ vp_in (x3 + 1) L ∧ vp_in (x3 + 2) L ∧ vp_in (x3 + 3) L ∧ vp_in (x3 + 4) L ∧ vp_in (x3 + 5) L ∧ vp_in (x3 + 6) L) {H : Heap} {ls : Array Slot} (hR : Rel (n + 1) σ μ) (hw1 : Wd TC E1 σ s H []) (hw2 : Wd TM E2 μ s H []) (hl : lv_has ls 4 [(0, .ref b), (1, .ref (E1.2.1 0)), (2, .ref (E2.2.1 0)), (3, .int x3)])
    (hk : ∀ (σ μ : Mem) (H : Heap) (ls : Array Slot), Rel n σ μ → Wd TC E1 σ s H [] → Wd TM E2 μ s H [] → lv_has ls 4 [(0, .ref b), (1, .ref (E1.2.1 0)), (2, .ref (E2.2.1 0)), (3, .int x3)] → W p l e room_1 s m #[Value.ref b] below meth c H [] 99 155119 (lw_Z below #[Value.ref b] s) (F0 m 1154 ls [])) : W p l e room_1 s m #[Value.ref b] below meth c H [] 99 155119 (lw_Z below #[Value.ref b] s) (F0 m 494 ls []) := by
  obtain ⟨C1, C2, hX, hbl, hdis, hg1, hg2⟩ := X
  have hx := C1.1
  have hb := C1.2.1
  have hown := C1.2.2.2.1
  have hts := C1.2.2.2.2.1
  refine lv_aload_n hx hb dL_law_494 rfl (lv_at hl 1 rfl) ?_
  refine lv_aload_n hx hb dL_law_495 rfl (lv_at hl 0 rfl) ?_
  refine lv_iload_n hx hb dL_law_496 rfl (lv_at hl 3 rfl) ?_
  refine lv_iconst (v := 1) hx hb dL_law_497 (by decide) ?_
  refine lv_iadd hx hb dL_law_498 ?_
  refine va_sld hx hb hX hbl (fun z => Nat.not_le.mpr hbl (hg1 _ z)) hw1.2.2 hi.2.1 dL_law_499 ?_
  refine lv_aload_n hx hb dL_law_500 rfl (lv_at hl 0 rfl) ?_
  refine lv_iload_n hx hb dL_law_501 rfl (lv_at hl 3 rfl) ?_
  refine lv_iconst (v := 2) hx hb dL_law_502 (by decide) ?_
  refine lv_iadd hx hb dL_law_503 ?_
  refine va_sld hx hb hX hbl (fun z => Nat.not_le.mpr hbl (hg1 _ z)) hw1.2.2 hi.2.2.1 dL_law_504 ?_
  obtain ⟨r, σ1, μ1, h1, h2, hR1⟩ := SF.2.2.2.2.2.2.2.2.1 n σ μ (xs (x3 + 1).toNatClampNeg) (xs (x3 + 2).toNatClampNeg) hR
  refine y_I hw1 hw2 hdis hg1 (q_runV C1 hw1 hl.1 (As := [.int (xs (x3 + 1).toNatClampNeg), .int (xs (x3 + 2).toNatClampNeg)]) (rest := []) (m_X11_rule l E1 (xs (x3 + 1).toNatClampNeg) (xs (x3 + 2).toNatClampNeg) σ r σ1 h1) yq_X11_rule tC_0 rfl rfl kw_717 ⟨Nat.le_of_ble_eq_true rfl, Nat.le_of_ble_eq_true rfl⟩ rfl (Nat.le_of_ble_eq_true rfl) ⟨Nat.le_of_ble_eq_true rfl, Nat.le_of_ble_eq_true rfl⟩ dL_law_505) (fun H hw1 hw2 => ?_)
  refine lv_aload_n hx hb dL_law_508 rfl (lv_at hl 2 rfl) ?_
  refine lv_aload_n hx hb dL_law_509 rfl (lv_at hl 0 rfl) ?_
  refine lv_iload_n hx hb dL_law_510 rfl (lv_at hl 3 rfl) ?_
  refine lv_iconst (v := 1) hx hb dL_law_511 (by decide) ?_
  refine lv_iadd hx hb dL_law_512 ?_
  refine va_sld hx hb hX hbl (fun z => Nat.not_le.mpr hbl (hg1 _ z)) hw1.2.2 hi.2.1 dL_law_513 ?_
  refine lv_aload_n hx hb dL_law_514 rfl (lv_at hl 0 rfl) ?_
  refine lv_iload_n hx hb dL_law_515 rfl (lv_at hl 3 rfl) ?_
  refine lv_iconst (v := 2) hx hb dL_law_516 (by decide) ?_
  refine lv_iadd hx hb dL_law_517 ?_
  refine va_sld hx hb hX hbl (fun z => Nat.not_le.mpr hbl (hg1 _ z)) hw1.2.2 hi.2.2.1 dL_law_518 ?_
  refine y_I hw2 hw1 (fun q a b => hdis q b a) hg2 (q_runV C2 hw2 hl.1 (As := [.int (xs (x3 + 1).toNatClampNeg), .int (xs (x3 + 2).toNatClampNeg)]) (rest := [.int r]) (m_X12_rule l E2 (xs (x3 + 1).toNatClampNeg) (xs (x3 + 2).toNatClampNeg) μ r μ1 h2) yq_X12_rule tM_0 rfl rfl kw_1259 ⟨Nat.le_of_ble_eq_true rfl, Nat.le_of_ble_eq_true rfl⟩ rfl (Nat.le_of_ble_eq_true rfl) ⟨Nat.le_of_ble_eq_true rfl, Nat.le_of_ble_eq_true rfl⟩ dL_law_519) (fun H hw2 hw1 => ?_)
  refine lv_icmp_eq (tgt := 1154) hx hb dL_law_522 (by decide) (fun _ => ?_) (fun q => absurd rfl q)
  exact hk σ1 μ1 H ls hR1 hw1 hw2 hl
set_option maxHeartbeats 4000000 in
set_option maxRecDepth 100000 in
theorem lc_9 {Rel : Nat → Mem → Mem → Prop} (SF : LawSteps Rel) {p : Program} {l : Launch} {e : Env} {s : State} {m : MethodId} {below : List Frame} {meth : Method} {c : Code} {E1 E2 : EV} {b L : Nat} {xs : Nat → Int32} (X : Lx E1 E2 p s m meth c b L xs) {n : Nat} {σ μ : Mem} {x3 : Int32} (hi : vp_in x3 L ∧ vp_in (x3 + 1) L ∧ vp_in (x3 + 2) L ∧ vp_in (x3 + 3) L ∧ vp_in (x3 + 4) L ∧ vp_in (x3 + 5) L ∧ vp_in (x3 + 6) L) {H : Heap} {ls : Array Slot} (hR : Rel (n + 1) σ μ) (hw1 : Wd TC E1 σ s H []) (hw2 : Wd TM E2 μ s H []) (hl : lv_has ls 4 [(0, .ref b), (1, .ref (E1.2.1 0)), (2, .ref (E2.2.1 0)), (3, .int x3)])
    (hk : ∀ (σ μ : Mem) (H : Heap) (ls : Array Slot), Rel n σ μ → Wd TC E1 σ s H [] → Wd TM E2 μ s H [] → lv_has ls 4 [(0, .ref b), (1, .ref (E1.2.1 0)), (2, .ref (E2.2.1 0)), (3, .int x3)] → W p l e room_1 s m #[Value.ref b] below meth c H [] 99 155119 (lw_Z below #[Value.ref b] s) (F0 m 1154 ls [])) : W p l e room_1 s m #[Value.ref b] below meth c H [] 99 155119 (lw_Z below #[Value.ref b] s) (F0 m 527 ls []) := by
  obtain ⟨C1, C2, hX, hbl, hdis, hg1, hg2⟩ := X
  have hx := C1.1
  have hb := C1.2.1
  have hown := C1.2.2.2.1
  have hts := C1.2.2.2.2.1
  refine lv_aload_n hx hb dL_law_527 rfl (lv_at hl 1 rfl) ?_
  refine lv_aload_n hx hb dL_law_528 rfl (lv_at hl 0 rfl) ?_
  refine lv_iload_n hx hb dL_law_529 rfl (lv_at hl 3 rfl) ?_
  refine lv_iconst (v := 1) hx hb dL_law_530 (by decide) ?_
  refine lv_iadd hx hb dL_law_531 ?_
  refine va_sld hx hb hX hbl (fun z => Nat.not_le.mpr hbl (hg1 _ z)) hw1.2.2 hi.2.1 dL_law_532 ?_
  refine lv_aload_n hx hb dL_law_533 rfl (lv_at hl 0 rfl) ?_
  refine lv_iload_n hx hb dL_law_534 rfl (lv_at hl 3 rfl) ?_
  refine lv_iconst (v := 2) hx hb dL_law_535 (by decide) ?_
  refine lv_iadd hx hb dL_law_536 ?_
  refine va_sld hx hb hX hbl (fun z => Nat.not_le.mpr hbl (hg1 _ z)) hw1.2.2 hi.2.2.1 dL_law_537 ?_
  obtain ⟨r, σ1, μ1, h1, h2, hR1⟩ := SF.2.2.2.2.2.2.2.2.2.1 n σ μ (xs (x3 + 1).toNatClampNeg) (xs (x3 + 2).toNatClampNeg) hR
  refine y_I hw1 hw2 hdis hg1 (q_runV C1 hw1 hl.1 (As := [.int (xs (x3 + 1).toNatClampNeg), .int (xs (x3 + 2).toNatClampNeg)]) (rest := []) (m_X11_row l E1 (xs (x3 + 1).toNatClampNeg) (xs (x3 + 2).toNatClampNeg) σ r σ1 h1) yq_X11_row tC_0 rfl rfl kw_725 ⟨Nat.le_of_ble_eq_true rfl, Nat.le_of_ble_eq_true rfl⟩ rfl (Nat.le_of_ble_eq_true rfl) ⟨Nat.le_of_ble_eq_true rfl, Nat.le_of_ble_eq_true rfl⟩ dL_law_538) (fun H hw1 hw2 => ?_)
  refine lv_aload_n hx hb dL_law_541 rfl (lv_at hl 2 rfl) ?_
  refine lv_aload_n hx hb dL_law_542 rfl (lv_at hl 0 rfl) ?_
  refine lv_iload_n hx hb dL_law_543 rfl (lv_at hl 3 rfl) ?_
  refine lv_iconst (v := 1) hx hb dL_law_544 (by decide) ?_
  refine lv_iadd hx hb dL_law_545 ?_
  refine va_sld hx hb hX hbl (fun z => Nat.not_le.mpr hbl (hg1 _ z)) hw1.2.2 hi.2.1 dL_law_546 ?_
  refine lv_aload_n hx hb dL_law_547 rfl (lv_at hl 0 rfl) ?_
  refine lv_iload_n hx hb dL_law_548 rfl (lv_at hl 3 rfl) ?_
  refine lv_iconst (v := 2) hx hb dL_law_549 (by decide) ?_
  refine lv_iadd hx hb dL_law_550 ?_
  refine va_sld hx hb hX hbl (fun z => Nat.not_le.mpr hbl (hg1 _ z)) hw1.2.2 hi.2.2.1 dL_law_551 ?_
  refine y_I hw2 hw1 (fun q a b => hdis q b a) hg2 (q_runV C2 hw2 hl.1 (As := [.int (xs (x3 + 1).toNatClampNeg), .int (xs (x3 + 2).toNatClampNeg)]) (rest := [.int r]) (m_X12_row l E2 (xs (x3 + 1).toNatClampNeg) (xs (x3 + 2).toNatClampNeg) μ r μ1 h2) yq_X12_row tM_0 rfl rfl kw_1263 ⟨Nat.le_of_ble_eq_true rfl, Nat.le_of_ble_eq_true rfl⟩ rfl (Nat.le_of_ble_eq_true rfl) ⟨Nat.le_of_ble_eq_true rfl, Nat.le_of_ble_eq_true rfl⟩ dL_law_552) (fun H hw2 hw1 => ?_)
  refine lv_icmp_eq (tgt := 1154) hx hb dL_law_555 (by decide) (fun _ => ?_) (fun q => absurd rfl q)
  exact hk σ1 μ1 H ls hR1 hw1 hw2 hl
set_option maxHeartbeats 4000000 in
set_option maxRecDepth 100000 in
theorem lc_10 {Rel : Nat → Mem → Mem → Prop} (SF : LawSteps Rel) {p : Program} {l : Launch} {e : Env} {s : State} {m : MethodId} {below : List Frame} {meth : Method} {c : Code} {E1 E2 : EV} {b L : Nat} {xs : Nat → Int32} (X : Lx E1 E2 p s m meth c b L xs) {n : Nat} {σ μ : Mem} {x3 : Int32} (hi : vp_in x3 L ∧ vp_in (x3 + 1) L ∧ vp_in (x3 + 2) L ∧ vp_in (x3 + 3) L ∧ vp_in (x3 + 4) L ∧ vp_in (x3 + 5) L ∧ vp_in (x3 + 6) L) {H : Heap} {ls : Array Slot} (hR : Rel (n + 1) σ μ) (hw1 : Wd TC E1 σ s H []) (hw2 : Wd TM E2 μ s H []) (hl : lv_has ls 4 [(0, .ref b), (1, .ref (E1.2.1 0)), (2, .ref (E2.2.1 0)), (3, .int x3)])
    (hk : ∀ (σ μ : Mem) (H : Heap) (ls : Array Slot), Rel n σ μ → Wd TC E1 σ s H [] → Wd TM E2 μ s H [] → lv_has ls 4 [(0, .ref b), (1, .ref (E1.2.1 0)), (2, .ref (E2.2.1 0)), (3, .int x3)] → W p l e room_1 s m #[Value.ref b] below meth c H [] 99 155119 (lw_Z below #[Value.ref b] s) (F0 m 1154 ls [])) : W p l e room_1 s m #[Value.ref b] below meth c H [] 99 155119 (lw_Z below #[Value.ref b] s) (F0 m 560 ls []) := by
  obtain ⟨C1, C2, hX, hbl, hdis, hg1, hg2⟩ := X
  have hx := C1.1
  have hb := C1.2.1
  have hown := C1.2.2.2.1
  have hts := C1.2.2.2.2.1
  refine lv_aload_n hx hb dL_law_560 rfl (lv_at hl 1 rfl) ?_
  refine lv_aload_n hx hb dL_law_561 rfl (lv_at hl 0 rfl) ?_
  refine lv_iload_n hx hb dL_law_562 rfl (lv_at hl 3 rfl) ?_
  refine lv_iconst (v := 1) hx hb dL_law_563 (by decide) ?_
  refine lv_iadd hx hb dL_law_564 ?_
  refine va_sld hx hb hX hbl (fun z => Nat.not_le.mpr hbl (hg1 _ z)) hw1.2.2 hi.2.1 dL_law_565 ?_
  refine lv_aload_n hx hb dL_law_566 rfl (lv_at hl 0 rfl) ?_
  refine lv_iload_n hx hb dL_law_567 rfl (lv_at hl 3 rfl) ?_
  refine lv_iconst (v := 2) hx hb dL_law_568 (by decide) ?_
  refine lv_iadd hx hb dL_law_569 ?_
  refine va_sld hx hb hX hbl (fun z => Nat.not_le.mpr hbl (hg1 _ z)) hw1.2.2 hi.2.2.1 dL_law_570 ?_
  refine lv_aload_n hx hb dL_law_571 rfl (lv_at hl 0 rfl) ?_
  refine lv_iload_n hx hb dL_law_572 rfl (lv_at hl 3 rfl) ?_
  refine lv_iconst (v := 3) hx hb dL_law_573 (by decide) ?_
  refine lv_iadd hx hb dL_law_574 ?_
  refine va_sld hx hb hX hbl (fun z => Nat.not_le.mpr hbl (hg1 _ z)) hw1.2.2 hi.2.2.2.1 dL_law_575 ?_
  refine lv_aload_n hx hb dL_law_576 rfl (lv_at hl 0 rfl) ?_
  refine lv_iload_n hx hb dL_law_577 rfl (lv_at hl 3 rfl) ?_
  refine lv_iconst (v := 4) hx hb dL_law_578 (by decide) ?_
  refine lv_iadd hx hb dL_law_579 ?_
  refine va_sld hx hb hX hbl (fun z => Nat.not_le.mpr hbl (hg1 _ z)) hw1.2.2 hi.2.2.2.2.1 dL_law_580 ?_
  refine lv_aload_n hx hb dL_law_581 rfl (lv_at hl 0 rfl) ?_
  refine lv_iload_n hx hb dL_law_582 rfl (lv_at hl 3 rfl) ?_
  refine lv_iconst (v := 5) hx hb dL_law_583 (by decide) ?_
  refine lv_iadd hx hb dL_law_584 ?_
  refine va_sld hx hb hX hbl (fun z => Nat.not_le.mpr hbl (hg1 _ z)) hw1.2.2 hi.2.2.2.2.2.1 dL_law_585 ?_
  obtain ⟨r, σ1, μ1, h1, h2, hR1⟩ := SF.2.2.2.2.2.2.2.2.2.2.1 n σ μ (xs (x3 + 1).toNatClampNeg) (xs (x3 + 2).toNatClampNeg) (xs (x3 + 3).toNatClampNeg) (xs (x3 + 4).toNatClampNeg) (xs (x3 + 5).toNatClampNeg) hR
  refine y_I hw1 hw2 hdis hg1 (q_runV C1 hw1 hl.1 (As := [.int (xs (x3 + 1).toNatClampNeg), .int (xs (x3 + 2).toNatClampNeg), .int (xs (x3 + 3).toNatClampNeg), .int (xs (x3 + 4).toNatClampNeg), .int (xs (x3 + 5).toNatClampNeg)]) (rest := []) (m_X11_sets l E1 (xs (x3 + 1).toNatClampNeg) (xs (x3 + 2).toNatClampNeg) (xs (x3 + 3).toNatClampNeg) (xs (x3 + 4).toNatClampNeg) (xs (x3 + 5).toNatClampNeg) σ r σ1 h1) yq_X11_sets tC_0 rfl rfl kw_737 ⟨Nat.le_of_ble_eq_true rfl, Nat.le_of_ble_eq_true rfl⟩ rfl (Nat.le_of_ble_eq_true rfl) ⟨Nat.le_of_ble_eq_true rfl, Nat.le_of_ble_eq_true rfl⟩ dL_law_586) (fun H hw1 hw2 => ?_)
  refine lv_aload_n hx hb dL_law_589 rfl (lv_at hl 2 rfl) ?_
  refine lv_aload_n hx hb dL_law_590 rfl (lv_at hl 0 rfl) ?_
  refine lv_iload_n hx hb dL_law_591 rfl (lv_at hl 3 rfl) ?_
  refine lv_iconst (v := 1) hx hb dL_law_592 (by decide) ?_
  refine lv_iadd hx hb dL_law_593 ?_
  refine va_sld hx hb hX hbl (fun z => Nat.not_le.mpr hbl (hg1 _ z)) hw1.2.2 hi.2.1 dL_law_594 ?_
  refine lv_aload_n hx hb dL_law_595 rfl (lv_at hl 0 rfl) ?_
  refine lv_iload_n hx hb dL_law_596 rfl (lv_at hl 3 rfl) ?_
  refine lv_iconst (v := 2) hx hb dL_law_597 (by decide) ?_
  refine lv_iadd hx hb dL_law_598 ?_
  refine va_sld hx hb hX hbl (fun z => Nat.not_le.mpr hbl (hg1 _ z)) hw1.2.2 hi.2.2.1 dL_law_599 ?_
  refine lv_aload_n hx hb dL_law_600 rfl (lv_at hl 0 rfl) ?_
  refine lv_iload_n hx hb dL_law_601 rfl (lv_at hl 3 rfl) ?_
  refine lv_iconst (v := 3) hx hb dL_law_602 (by decide) ?_
  refine lv_iadd hx hb dL_law_603 ?_
  refine va_sld hx hb hX hbl (fun z => Nat.not_le.mpr hbl (hg1 _ z)) hw1.2.2 hi.2.2.2.1 dL_law_604 ?_
  refine lv_aload_n hx hb dL_law_605 rfl (lv_at hl 0 rfl) ?_
  refine lv_iload_n hx hb dL_law_606 rfl (lv_at hl 3 rfl) ?_
  refine lv_iconst (v := 4) hx hb dL_law_607 (by decide) ?_
  refine lv_iadd hx hb dL_law_608 ?_
  refine va_sld hx hb hX hbl (fun z => Nat.not_le.mpr hbl (hg1 _ z)) hw1.2.2 hi.2.2.2.2.1 dL_law_609 ?_
  refine lv_aload_n hx hb dL_law_610 rfl (lv_at hl 0 rfl) ?_
  refine lv_iload_n hx hb dL_law_611 rfl (lv_at hl 3 rfl) ?_
  refine lv_iconst (v := 5) hx hb dL_law_612 (by decide) ?_
  refine lv_iadd hx hb dL_law_613 ?_
  refine va_sld hx hb hX hbl (fun z => Nat.not_le.mpr hbl (hg1 _ z)) hw1.2.2 hi.2.2.2.2.2.1 dL_law_614 ?_
  refine y_I hw2 hw1 (fun q a b => hdis q b a) hg2 (q_runV C2 hw2 hl.1 (As := [.int (xs (x3 + 1).toNatClampNeg), .int (xs (x3 + 2).toNatClampNeg), .int (xs (x3 + 3).toNatClampNeg), .int (xs (x3 + 4).toNatClampNeg), .int (xs (x3 + 5).toNatClampNeg)]) (rest := [.int r]) (m_X12_sets l E2 (xs (x3 + 1).toNatClampNeg) (xs (x3 + 2).toNatClampNeg) (xs (x3 + 3).toNatClampNeg) (xs (x3 + 4).toNatClampNeg) (xs (x3 + 5).toNatClampNeg) μ r μ1 h2) yq_X12_sets tM_0 rfl rfl kw_1271 ⟨Nat.le_of_ble_eq_true rfl, Nat.le_of_ble_eq_true rfl⟩ rfl (Nat.le_of_ble_eq_true rfl) ⟨Nat.le_of_ble_eq_true rfl, Nat.le_of_ble_eq_true rfl⟩ dL_law_615) (fun H hw2 hw1 => ?_)
  refine lv_icmp_eq (tgt := 1154) hx hb dL_law_618 (by decide) (fun _ => ?_) (fun q => absurd rfl q)
  exact hk σ1 μ1 H ls hR1 hw1 hw2 hl
set_option maxHeartbeats 4000000 in
set_option maxRecDepth 100000 in
theorem lc_11 {Rel : Nat → Mem → Mem → Prop} (SF : LawSteps Rel) {p : Program} {l : Launch} {e : Env} {s : State} {m : MethodId} {below : List Frame} {meth : Method} {c : Code} {E1 E2 : EV} {b L : Nat} {xs : Nat → Int32} (X : Lx E1 E2 p s m meth c b L xs) {n : Nat} {σ μ : Mem} {x3 : Int32} (hi : vp_in x3 L ∧ vp_in (x3 + 1) L ∧ vp_in (x3 + 2) L ∧ vp_in (x3 + 3) L ∧ vp_in (x3 + 4) L ∧ vp_in (x3 + 5) L ∧ vp_in (x3 + 6) L) {H : Heap} {ls : Array Slot} (hR : Rel (n + 1) σ μ) (hw1 : Wd TC E1 σ s H []) (hw2 : Wd TM E2 μ s H []) (hl : lv_has ls 4 [(0, .ref b), (1, .ref (E1.2.1 0)), (2, .ref (E2.2.1 0)), (3, .int x3)])
    (hk : ∀ (σ μ : Mem) (H : Heap) (ls : Array Slot), Rel n σ μ → Wd TC E1 σ s H [] → Wd TM E2 μ s H [] → lv_has ls 4 [(0, .ref b), (1, .ref (E1.2.1 0)), (2, .ref (E2.2.1 0)), (3, .int x3)] → W p l e room_1 s m #[Value.ref b] below meth c H [] 99 155119 (lw_Z below #[Value.ref b] s) (F0 m 1154 ls [])) : W p l e room_1 s m #[Value.ref b] below meth c H [] 99 155119 (lw_Z below #[Value.ref b] s) (F0 m 623 ls []) := by
  obtain ⟨C1, C2, hX, hbl, hdis, hg1, hg2⟩ := X
  have hx := C1.1
  have hb := C1.2.1
  have hown := C1.2.2.2.1
  have hts := C1.2.2.2.2.1
  refine lv_aload_n hx hb dL_law_623 rfl (lv_at hl 1 rfl) ?_
  refine lv_aload_n hx hb dL_law_624 rfl (lv_at hl 0 rfl) ?_
  refine lv_iload_n hx hb dL_law_625 rfl (lv_at hl 3 rfl) ?_
  refine lv_iconst (v := 1) hx hb dL_law_626 (by decide) ?_
  refine lv_iadd hx hb dL_law_627 ?_
  refine va_sld hx hb hX hbl (fun z => Nat.not_le.mpr hbl (hg1 _ z)) hw1.2.2 hi.2.1 dL_law_628 ?_
  refine lv_aload_n hx hb dL_law_629 rfl (lv_at hl 0 rfl) ?_
  refine lv_iload_n hx hb dL_law_630 rfl (lv_at hl 3 rfl) ?_
  refine lv_iconst (v := 2) hx hb dL_law_631 (by decide) ?_
  refine lv_iadd hx hb dL_law_632 ?_
  refine va_sld hx hb hX hbl (fun z => Nat.not_le.mpr hbl (hg1 _ z)) hw1.2.2 hi.2.2.1 dL_law_633 ?_
  refine lv_aload_n hx hb dL_law_634 rfl (lv_at hl 0 rfl) ?_
  refine lv_iload_n hx hb dL_law_635 rfl (lv_at hl 3 rfl) ?_
  refine lv_iconst (v := 3) hx hb dL_law_636 (by decide) ?_
  refine lv_iadd hx hb dL_law_637 ?_
  refine va_sld hx hb hX hbl (fun z => Nat.not_le.mpr hbl (hg1 _ z)) hw1.2.2 hi.2.2.2.1 dL_law_638 ?_
  refine lv_aload_n hx hb dL_law_639 rfl (lv_at hl 0 rfl) ?_
  refine lv_iload_n hx hb dL_law_640 rfl (lv_at hl 3 rfl) ?_
  refine lv_iconst (v := 4) hx hb dL_law_641 (by decide) ?_
  refine lv_iadd hx hb dL_law_642 ?_
  refine va_sld hx hb hX hbl (fun z => Nat.not_le.mpr hbl (hg1 _ z)) hw1.2.2 hi.2.2.2.2.1 dL_law_643 ?_
  obtain ⟨r, σ1, μ1, h1, h2, hR1⟩ := SF.2.2.2.2.2.2.2.2.2.2.2.1 n σ μ (xs (x3 + 1).toNatClampNeg) (xs (x3 + 2).toNatClampNeg) (xs (x3 + 3).toNatClampNeg) (xs (x3 + 4).toNatClampNeg) hR
  refine y_L hw1 hw2 hdis hg1 (q_runV C1 hw1 hl.1 (As := [.int (xs (x3 + 1).toNatClampNeg), .int (xs (x3 + 2).toNatClampNeg), .int (xs (x3 + 3).toNatClampNeg), .int (xs (x3 + 4).toNatClampNeg)]) (rest := []) (m_X11_mean l E1 (xs (x3 + 1).toNatClampNeg) (xs (x3 + 2).toNatClampNeg) (xs (x3 + 3).toNatClampNeg) (xs (x3 + 4).toNatClampNeg) σ r σ1 h1) yq_X11_mean tC_0 rfl rfl kw_786 ⟨Nat.le_of_ble_eq_true rfl, Nat.le_of_ble_eq_true rfl⟩ rfl (Nat.le_of_ble_eq_true rfl) ⟨Nat.le_of_ble_eq_true rfl, Nat.le_of_ble_eq_true rfl⟩ dL_law_644) (fun H hw1 hw2 => ?_)
  refine lv_aload_n hx hb dL_law_647 rfl (lv_at hl 2 rfl) ?_
  refine lv_aload_n hx hb dL_law_648 rfl (lv_at hl 0 rfl) ?_
  refine lv_iload_n hx hb dL_law_649 rfl (lv_at hl 3 rfl) ?_
  refine lv_iconst (v := 1) hx hb dL_law_650 (by decide) ?_
  refine lv_iadd hx hb dL_law_651 ?_
  refine va_sld hx hb hX hbl (fun z => Nat.not_le.mpr hbl (hg1 _ z)) hw1.2.2 hi.2.1 dL_law_652 ?_
  refine lv_aload_n hx hb dL_law_653 rfl (lv_at hl 0 rfl) ?_
  refine lv_iload_n hx hb dL_law_654 rfl (lv_at hl 3 rfl) ?_
  refine lv_iconst (v := 2) hx hb dL_law_655 (by decide) ?_
  refine lv_iadd hx hb dL_law_656 ?_
  refine va_sld hx hb hX hbl (fun z => Nat.not_le.mpr hbl (hg1 _ z)) hw1.2.2 hi.2.2.1 dL_law_657 ?_
  refine lv_aload_n hx hb dL_law_658 rfl (lv_at hl 0 rfl) ?_
  refine lv_iload_n hx hb dL_law_659 rfl (lv_at hl 3 rfl) ?_
  refine lv_iconst (v := 3) hx hb dL_law_660 (by decide) ?_
  refine lv_iadd hx hb dL_law_661 ?_
  refine va_sld hx hb hX hbl (fun z => Nat.not_le.mpr hbl (hg1 _ z)) hw1.2.2 hi.2.2.2.1 dL_law_662 ?_
  refine lv_aload_n hx hb dL_law_663 rfl (lv_at hl 0 rfl) ?_
  refine lv_iload_n hx hb dL_law_664 rfl (lv_at hl 3 rfl) ?_
  refine lv_iconst (v := 4) hx hb dL_law_665 (by decide) ?_
  refine lv_iadd hx hb dL_law_666 ?_
  refine va_sld hx hb hX hbl (fun z => Nat.not_le.mpr hbl (hg1 _ z)) hw1.2.2 hi.2.2.2.2.1 dL_law_667 ?_
  refine y_L hw2 hw1 (fun q a b => hdis q b a) hg2 (q_runV C2 hw2 hl.1 (As := [.int (xs (x3 + 1).toNatClampNeg), .int (xs (x3 + 2).toNatClampNeg), .int (xs (x3 + 3).toNatClampNeg), .int (xs (x3 + 4).toNatClampNeg)]) (rest := [.long r]) (m_X12_mean l E2 (xs (x3 + 1).toNatClampNeg) (xs (x3 + 2).toNatClampNeg) (xs (x3 + 3).toNatClampNeg) (xs (x3 + 4).toNatClampNeg) μ r μ1 h2) yq_X12_mean tM_0 rfl rfl kw_1308 ⟨Nat.le_of_ble_eq_true rfl, Nat.le_of_ble_eq_true rfl⟩ rfl (Nat.le_of_ble_eq_true rfl) ⟨Nat.le_of_ble_eq_true rfl, Nat.le_of_ble_eq_true rfl⟩ dL_law_668) (fun H hw2 hw1 => ?_)
  refine W.lcmp hx hb dL_law_671 ?_
  refine lv_if_eq (tgt := 1154) hx hb dL_law_672 (by decide) (fun _ => ?_) (fun q => absurd (lg_self _) q)
  exact hk σ1 μ1 H ls hR1 hw1 hw2 hl
set_option maxHeartbeats 4000000 in
set_option maxRecDepth 100000 in
theorem lc_12 {Rel : Nat → Mem → Mem → Prop} (SF : LawSteps Rel) {p : Program} {l : Launch} {e : Env} {s : State} {m : MethodId} {below : List Frame} {meth : Method} {c : Code} {E1 E2 : EV} {b L : Nat} {xs : Nat → Int32} (X : Lx E1 E2 p s m meth c b L xs) {n : Nat} {σ μ : Mem} {x3 : Int32} (hi : vp_in x3 L ∧ vp_in (x3 + 1) L ∧ vp_in (x3 + 2) L ∧ vp_in (x3 + 3) L ∧ vp_in (x3 + 4) L ∧ vp_in (x3 + 5) L ∧ vp_in (x3 + 6) L) {H : Heap} {ls : Array Slot} (hR : Rel (n + 1) σ μ) (hw1 : Wd TC E1 σ s H []) (hw2 : Wd TM E2 μ s H []) (hl : lv_has ls 4 [(0, .ref b), (1, .ref (E1.2.1 0)), (2, .ref (E2.2.1 0)), (3, .int x3)])
    (hk : ∀ (σ μ : Mem) (H : Heap) (ls : Array Slot), Rel n σ μ → Wd TC E1 σ s H [] → Wd TM E2 μ s H [] → lv_has ls 4 [(0, .ref b), (1, .ref (E1.2.1 0)), (2, .ref (E2.2.1 0)), (3, .int x3)] → W p l e room_1 s m #[Value.ref b] below meth c H [] 99 155119 (lw_Z below #[Value.ref b] s) (F0 m 1154 ls [])) : W p l e room_1 s m #[Value.ref b] below meth c H [] 99 155119 (lw_Z below #[Value.ref b] s) (F0 m 677 ls []) := by
  obtain ⟨C1, C2, hX, hbl, hdis, hg1, hg2⟩ := X
  have hx := C1.1
  have hb := C1.2.1
  have hown := C1.2.2.2.1
  have hts := C1.2.2.2.2.1
  refine lv_aload_n hx hb dL_law_677 rfl (lv_at hl 1 rfl) ?_
  refine lv_aload_n hx hb dL_law_678 rfl (lv_at hl 0 rfl) ?_
  refine lv_iload_n hx hb dL_law_679 rfl (lv_at hl 3 rfl) ?_
  refine lv_iconst (v := 1) hx hb dL_law_680 (by decide) ?_
  refine lv_iadd hx hb dL_law_681 ?_
  refine va_sld hx hb hX hbl (fun z => Nat.not_le.mpr hbl (hg1 _ z)) hw1.2.2 hi.2.1 dL_law_682 ?_
  refine lv_aload_n hx hb dL_law_683 rfl (lv_at hl 0 rfl) ?_
  refine lv_iload_n hx hb dL_law_684 rfl (lv_at hl 3 rfl) ?_
  refine lv_iconst (v := 2) hx hb dL_law_685 (by decide) ?_
  refine lv_iadd hx hb dL_law_686 ?_
  refine va_sld hx hb hX hbl (fun z => Nat.not_le.mpr hbl (hg1 _ z)) hw1.2.2 hi.2.2.1 dL_law_687 ?_
  refine lv_aload_n hx hb dL_law_688 rfl (lv_at hl 0 rfl) ?_
  refine lv_iload_n hx hb dL_law_689 rfl (lv_at hl 3 rfl) ?_
  refine lv_iconst (v := 3) hx hb dL_law_690 (by decide) ?_
  refine lv_iadd hx hb dL_law_691 ?_
  refine va_sld hx hb hX hbl (fun z => Nat.not_le.mpr hbl (hg1 _ z)) hw1.2.2 hi.2.2.2.1 dL_law_692 ?_
  obtain ⟨r, σ1, μ1, h1, h2, hR1⟩ := SF.2.2.2.2.2.2.2.2.2.2.2.2.1 n σ μ (xs (x3 + 1).toNatClampNeg) (xs (x3 + 2).toNatClampNeg) (xs (x3 + 3).toNatClampNeg) hR
  refine y_L hw1 hw2 hdis hg1 (q_runV C1 hw1 hl.1 (As := [.int (xs (x3 + 1).toNatClampNeg), .int (xs (x3 + 2).toNatClampNeg), .int (xs (x3 + 3).toNatClampNeg)]) (rest := []) (m_X11_best l E1 (xs (x3 + 1).toNatClampNeg) (xs (x3 + 2).toNatClampNeg) (xs (x3 + 3).toNatClampNeg) σ r σ1 h1) yq_X11_best tC_0 rfl rfl kw_813 ⟨Nat.le_of_ble_eq_true rfl, Nat.le_of_ble_eq_true rfl⟩ rfl (Nat.le_of_ble_eq_true rfl) ⟨Nat.le_of_ble_eq_true rfl, Nat.le_of_ble_eq_true rfl⟩ dL_law_693) (fun H hw1 hw2 => ?_)
  refine lv_aload_n hx hb dL_law_696 rfl (lv_at hl 2 rfl) ?_
  refine lv_aload_n hx hb dL_law_697 rfl (lv_at hl 0 rfl) ?_
  refine lv_iload_n hx hb dL_law_698 rfl (lv_at hl 3 rfl) ?_
  refine lv_iconst (v := 1) hx hb dL_law_699 (by decide) ?_
  refine lv_iadd hx hb dL_law_700 ?_
  refine va_sld hx hb hX hbl (fun z => Nat.not_le.mpr hbl (hg1 _ z)) hw1.2.2 hi.2.1 dL_law_701 ?_
  refine lv_aload_n hx hb dL_law_702 rfl (lv_at hl 0 rfl) ?_
  refine lv_iload_n hx hb dL_law_703 rfl (lv_at hl 3 rfl) ?_
  refine lv_iconst (v := 2) hx hb dL_law_704 (by decide) ?_
  refine lv_iadd hx hb dL_law_705 ?_
  refine va_sld hx hb hX hbl (fun z => Nat.not_le.mpr hbl (hg1 _ z)) hw1.2.2 hi.2.2.1 dL_law_706 ?_
  refine lv_aload_n hx hb dL_law_707 rfl (lv_at hl 0 rfl) ?_
  refine lv_iload_n hx hb dL_law_708 rfl (lv_at hl 3 rfl) ?_
  refine lv_iconst (v := 3) hx hb dL_law_709 (by decide) ?_
  refine lv_iadd hx hb dL_law_710 ?_
  refine va_sld hx hb hX hbl (fun z => Nat.not_le.mpr hbl (hg1 _ z)) hw1.2.2 hi.2.2.2.1 dL_law_711 ?_
  refine y_L hw2 hw1 (fun q a b => hdis q b a) hg2 (q_runV C2 hw2 hl.1 (As := [.int (xs (x3 + 1).toNatClampNeg), .int (xs (x3 + 2).toNatClampNeg), .int (xs (x3 + 3).toNatClampNeg)]) (rest := [.long r]) (m_X12_best l E2 (xs (x3 + 1).toNatClampNeg) (xs (x3 + 2).toNatClampNeg) (xs (x3 + 3).toNatClampNeg) μ r μ1 h2) yq_X12_best tM_0 rfl rfl kw_1330 ⟨Nat.le_of_ble_eq_true rfl, Nat.le_of_ble_eq_true rfl⟩ rfl (Nat.le_of_ble_eq_true rfl) ⟨Nat.le_of_ble_eq_true rfl, Nat.le_of_ble_eq_true rfl⟩ dL_law_712) (fun H hw2 hw1 => ?_)
  refine W.lcmp hx hb dL_law_715 ?_
  refine lv_if_eq (tgt := 1154) hx hb dL_law_716 (by decide) (fun _ => ?_) (fun q => absurd (lg_self _) q)
  exact hk σ1 μ1 H ls hR1 hw1 hw2 hl
set_option maxHeartbeats 4000000 in
set_option maxRecDepth 100000 in
theorem lc_13 {Rel : Nat → Mem → Mem → Prop} (SF : LawSteps Rel) {p : Program} {l : Launch} {e : Env} {s : State} {m : MethodId} {below : List Frame} {meth : Method} {c : Code} {E1 E2 : EV} {b L : Nat} {xs : Nat → Int32} (X : Lx E1 E2 p s m meth c b L xs) {n : Nat} {σ μ : Mem} {x3 : Int32} (hi : vp_in x3 L ∧ vp_in (x3 + 1) L ∧ vp_in (x3 + 2) L ∧ vp_in (x3 + 3) L ∧ vp_in (x3 + 4) L ∧ vp_in (x3 + 5) L ∧ vp_in (x3 + 6) L) {H : Heap} {ls : Array Slot} (hR : Rel (n + 1) σ μ) (hw1 : Wd TC E1 σ s H []) (hw2 : Wd TM E2 μ s H []) (hl : lv_has ls 4 [(0, .ref b), (1, .ref (E1.2.1 0)), (2, .ref (E2.2.1 0)), (3, .int x3)])
    (hk : ∀ (σ μ : Mem) (H : Heap) (ls : Array Slot), Rel n σ μ → Wd TC E1 σ s H [] → Wd TM E2 μ s H [] → lv_has ls 4 [(0, .ref b), (1, .ref (E1.2.1 0)), (2, .ref (E2.2.1 0)), (3, .int x3)] → W p l e room_1 s m #[Value.ref b] below meth c H [] 99 155119 (lw_Z below #[Value.ref b] s) (F0 m 1154 ls [])) : W p l e room_1 s m #[Value.ref b] below meth c H [] 99 155119 (lw_Z below #[Value.ref b] s) (F0 m 721 ls []) := by
  obtain ⟨C1, C2, hX, hbl, hdis, hg1, hg2⟩ := X
  have hx := C1.1
  have hb := C1.2.1
  have hown := C1.2.2.2.1
  have hts := C1.2.2.2.2.1
  refine lv_aload_n hx hb dL_law_721 rfl (lv_at hl 1 rfl) ?_
  refine lv_aload_n hx hb dL_law_722 rfl (lv_at hl 0 rfl) ?_
  refine lv_iload_n hx hb dL_law_723 rfl (lv_at hl 3 rfl) ?_
  refine lv_iconst (v := 1) hx hb dL_law_724 (by decide) ?_
  refine lv_iadd hx hb dL_law_725 ?_
  refine va_sld hx hb hX hbl (fun z => Nat.not_le.mpr hbl (hg1 _ z)) hw1.2.2 hi.2.1 dL_law_726 ?_
  refine lv_aload_n hx hb dL_law_727 rfl (lv_at hl 0 rfl) ?_
  refine lv_iload_n hx hb dL_law_728 rfl (lv_at hl 3 rfl) ?_
  refine lv_iconst (v := 2) hx hb dL_law_729 (by decide) ?_
  refine lv_iadd hx hb dL_law_730 ?_
  refine va_sld hx hb hX hbl (fun z => Nat.not_le.mpr hbl (hg1 _ z)) hw1.2.2 hi.2.2.1 dL_law_731 ?_
  obtain ⟨r, σ1, μ1, h1, h2, hR1⟩ := SF.2.2.2.2.2.2.2.2.2.2.2.2.2.1 n σ μ (xs (x3 + 1).toNatClampNeg) (xs (x3 + 2).toNatClampNeg) hR
  refine y_I hw1 hw2 hdis hg1 (q_runV C1 hw1 hl.1 (As := [.int (xs (x3 + 1).toNatClampNeg), .int (xs (x3 + 2).toNatClampNeg)]) (rest := []) (m_X11_dress l E1 (xs (x3 + 1).toNatClampNeg) (xs (x3 + 2).toNatClampNeg) σ r σ1 h1) yq_X11_dress tC_0 rfl rfl kw_834 ⟨Nat.le_of_ble_eq_true rfl, Nat.le_of_ble_eq_true rfl⟩ rfl (Nat.le_of_ble_eq_true rfl) ⟨Nat.le_of_ble_eq_true rfl, Nat.le_of_ble_eq_true rfl⟩ dL_law_732) (fun H hw1 hw2 => ?_)
  refine lv_aload_n hx hb dL_law_735 rfl (lv_at hl 2 rfl) ?_
  refine lv_aload_n hx hb dL_law_736 rfl (lv_at hl 0 rfl) ?_
  refine lv_iload_n hx hb dL_law_737 rfl (lv_at hl 3 rfl) ?_
  refine lv_iconst (v := 1) hx hb dL_law_738 (by decide) ?_
  refine lv_iadd hx hb dL_law_739 ?_
  refine va_sld hx hb hX hbl (fun z => Nat.not_le.mpr hbl (hg1 _ z)) hw1.2.2 hi.2.1 dL_law_740 ?_
  refine lv_aload_n hx hb dL_law_741 rfl (lv_at hl 0 rfl) ?_
  refine lv_iload_n hx hb dL_law_742 rfl (lv_at hl 3 rfl) ?_
  refine lv_iconst (v := 2) hx hb dL_law_743 (by decide) ?_
  refine lv_iadd hx hb dL_law_744 ?_
  refine va_sld hx hb hX hbl (fun z => Nat.not_le.mpr hbl (hg1 _ z)) hw1.2.2 hi.2.2.1 dL_law_745 ?_
  refine y_I hw2 hw1 (fun q a b => hdis q b a) hg2 (q_runV C2 hw2 hl.1 (As := [.int (xs (x3 + 1).toNatClampNeg), .int (xs (x3 + 2).toNatClampNeg)]) (rest := [.int r]) (m_X12_dress l E2 (xs (x3 + 1).toNatClampNeg) (xs (x3 + 2).toNatClampNeg) μ r μ1 h2) yq_X12_dress tM_0 rfl rfl kw_1334 ⟨Nat.le_of_ble_eq_true rfl, Nat.le_of_ble_eq_true rfl⟩ rfl (Nat.le_of_ble_eq_true rfl) ⟨Nat.le_of_ble_eq_true rfl, Nat.le_of_ble_eq_true rfl⟩ dL_law_746) (fun H hw2 hw1 => ?_)
  refine lv_icmp_eq (tgt := 1154) hx hb dL_law_749 (by decide) (fun _ => ?_) (fun q => absurd rfl q)
  exact hk σ1 μ1 H ls hR1 hw1 hw2 hl
set_option maxHeartbeats 4000000 in
set_option maxRecDepth 100000 in
theorem lc_14 {Rel : Nat → Mem → Mem → Prop} (SF : LawSteps Rel) {p : Program} {l : Launch} {e : Env} {s : State} {m : MethodId} {below : List Frame} {meth : Method} {c : Code} {E1 E2 : EV} {b L : Nat} {xs : Nat → Int32} (X : Lx E1 E2 p s m meth c b L xs) {n : Nat} {σ μ : Mem} {x3 : Int32} (hi : vp_in x3 L ∧ vp_in (x3 + 1) L ∧ vp_in (x3 + 2) L ∧ vp_in (x3 + 3) L ∧ vp_in (x3 + 4) L ∧ vp_in (x3 + 5) L ∧ vp_in (x3 + 6) L) {H : Heap} {ls : Array Slot} (hR : Rel (n + 1) σ μ) (hw1 : Wd TC E1 σ s H []) (hw2 : Wd TM E2 μ s H []) (hl : lv_has ls 4 [(0, .ref b), (1, .ref (E1.2.1 0)), (2, .ref (E2.2.1 0)), (3, .int x3)])
    (hk : ∀ (σ μ : Mem) (H : Heap) (ls : Array Slot), Rel n σ μ → Wd TC E1 σ s H [] → Wd TM E2 μ s H [] → lv_has ls 4 [(0, .ref b), (1, .ref (E1.2.1 0)), (2, .ref (E2.2.1 0)), (3, .int x3)] → W p l e room_1 s m #[Value.ref b] below meth c H [] 99 155119 (lw_Z below #[Value.ref b] s) (F0 m 1154 ls [])) : W p l e room_1 s m #[Value.ref b] below meth c H [] 99 155119 (lw_Z below #[Value.ref b] s) (F0 m 754 ls []) := by
  obtain ⟨C1, C2, hX, hbl, hdis, hg1, hg2⟩ := X
  have hx := C1.1
  have hb := C1.2.1
  have hown := C1.2.2.2.1
  have hts := C1.2.2.2.2.1
  refine lv_aload_n hx hb dL_law_754 rfl (lv_at hl 1 rfl) ?_
  refine lv_aload_n hx hb dL_law_755 rfl (lv_at hl 0 rfl) ?_
  refine lv_iload_n hx hb dL_law_756 rfl (lv_at hl 3 rfl) ?_
  refine lv_iconst (v := 1) hx hb dL_law_757 (by decide) ?_
  refine lv_iadd hx hb dL_law_758 ?_
  refine va_sld hx hb hX hbl (fun z => Nat.not_le.mpr hbl (hg1 _ z)) hw1.2.2 hi.2.1 dL_law_759 ?_
  refine lv_aload_n hx hb dL_law_760 rfl (lv_at hl 0 rfl) ?_
  refine lv_iload_n hx hb dL_law_761 rfl (lv_at hl 3 rfl) ?_
  refine lv_iconst (v := 2) hx hb dL_law_762 (by decide) ?_
  refine lv_iadd hx hb dL_law_763 ?_
  refine va_sld hx hb hX hbl (fun z => Nat.not_le.mpr hbl (hg1 _ z)) hw1.2.2 hi.2.2.1 dL_law_764 ?_
  obtain ⟨r, σ1, μ1, h1, h2, hR1⟩ := SF.2.2.2.2.2.2.2.2.2.2.2.2.2.2.1 n σ μ (xs (x3 + 1).toNatClampNeg) (xs (x3 + 2).toNatClampNeg) hR
  refine y_I hw1 hw2 hdis hg1 (q_runV C1 hw1 hl.1 (As := [.int (xs (x3 + 1).toNatClampNeg), .int (xs (x3 + 2).toNatClampNeg)]) (rest := []) (m_X11_day l E1 (xs (x3 + 1).toNatClampNeg) (xs (x3 + 2).toNatClampNeg) σ r σ1 h1) yq_X11_day tC_0 rfl rfl kw_842 ⟨Nat.le_of_ble_eq_true rfl, Nat.le_of_ble_eq_true rfl⟩ rfl (Nat.le_of_ble_eq_true rfl) ⟨Nat.le_of_ble_eq_true rfl, Nat.le_of_ble_eq_true rfl⟩ dL_law_765) (fun H hw1 hw2 => ?_)
  refine lv_aload_n hx hb dL_law_768 rfl (lv_at hl 2 rfl) ?_
  refine lv_aload_n hx hb dL_law_769 rfl (lv_at hl 0 rfl) ?_
  refine lv_iload_n hx hb dL_law_770 rfl (lv_at hl 3 rfl) ?_
  refine lv_iconst (v := 1) hx hb dL_law_771 (by decide) ?_
  refine lv_iadd hx hb dL_law_772 ?_
  refine va_sld hx hb hX hbl (fun z => Nat.not_le.mpr hbl (hg1 _ z)) hw1.2.2 hi.2.1 dL_law_773 ?_
  refine lv_aload_n hx hb dL_law_774 rfl (lv_at hl 0 rfl) ?_
  refine lv_iload_n hx hb dL_law_775 rfl (lv_at hl 3 rfl) ?_
  refine lv_iconst (v := 2) hx hb dL_law_776 (by decide) ?_
  refine lv_iadd hx hb dL_law_777 ?_
  refine va_sld hx hb hX hbl (fun z => Nat.not_le.mpr hbl (hg1 _ z)) hw1.2.2 hi.2.2.1 dL_law_778 ?_
  refine y_I hw2 hw1 (fun q a b => hdis q b a) hg2 (q_runV C2 hw2 hl.1 (As := [.int (xs (x3 + 1).toNatClampNeg), .int (xs (x3 + 2).toNatClampNeg)]) (rest := [.int r]) (m_X12_day l E2 (xs (x3 + 1).toNatClampNeg) (xs (x3 + 2).toNatClampNeg) μ r μ1 h2) yq_X12_day tM_0 rfl rfl kw_1338 ⟨Nat.le_of_ble_eq_true rfl, Nat.le_of_ble_eq_true rfl⟩ rfl (Nat.le_of_ble_eq_true rfl) ⟨Nat.le_of_ble_eq_true rfl, Nat.le_of_ble_eq_true rfl⟩ dL_law_779) (fun H hw2 hw1 => ?_)
  refine lv_icmp_eq (tgt := 1154) hx hb dL_law_782 (by decide) (fun _ => ?_) (fun q => absurd rfl q)
  exact hk σ1 μ1 H ls hR1 hw1 hw2 hl
set_option maxHeartbeats 4000000 in
set_option maxRecDepth 100000 in
theorem lc_15 {Rel : Nat → Mem → Mem → Prop} (SF : LawSteps Rel) {p : Program} {l : Launch} {e : Env} {s : State} {m : MethodId} {below : List Frame} {meth : Method} {c : Code} {E1 E2 : EV} {b L : Nat} {xs : Nat → Int32} (X : Lx E1 E2 p s m meth c b L xs) {n : Nat} {σ μ : Mem} {x3 : Int32} (hi : vp_in x3 L ∧ vp_in (x3 + 1) L ∧ vp_in (x3 + 2) L ∧ vp_in (x3 + 3) L ∧ vp_in (x3 + 4) L ∧ vp_in (x3 + 5) L ∧ vp_in (x3 + 6) L) {H : Heap} {ls : Array Slot} (hR : Rel (n + 1) σ μ) (hw1 : Wd TC E1 σ s H []) (hw2 : Wd TM E2 μ s H []) (hl : lv_has ls 4 [(0, .ref b), (1, .ref (E1.2.1 0)), (2, .ref (E2.2.1 0)), (3, .int x3)])
    (hk : ∀ (σ μ : Mem) (H : Heap) (ls : Array Slot), Rel n σ μ → Wd TC E1 σ s H [] → Wd TM E2 μ s H [] → lv_has ls 4 [(0, .ref b), (1, .ref (E1.2.1 0)), (2, .ref (E2.2.1 0)), (3, .int x3)] → W p l e room_1 s m #[Value.ref b] below meth c H [] 99 155119 (lw_Z below #[Value.ref b] s) (F0 m 1154 ls [])) : W p l e room_1 s m #[Value.ref b] below meth c H [] 99 155119 (lw_Z below #[Value.ref b] s) (F0 m 787 ls []) := by
  obtain ⟨C1, C2, hX, hbl, hdis, hg1, hg2⟩ := X
  have hx := C1.1
  have hb := C1.2.1
  have hown := C1.2.2.2.1
  have hts := C1.2.2.2.2.1
  refine lv_aload_n hx hb dL_law_787 rfl (lv_at hl 1 rfl) ?_
  refine lv_aload_n hx hb dL_law_788 rfl (lv_at hl 0 rfl) ?_
  refine lv_iload_n hx hb dL_law_789 rfl (lv_at hl 3 rfl) ?_
  refine lv_iconst (v := 1) hx hb dL_law_790 (by decide) ?_
  refine lv_iadd hx hb dL_law_791 ?_
  refine va_sld hx hb hX hbl (fun z => Nat.not_le.mpr hbl (hg1 _ z)) hw1.2.2 hi.2.1 dL_law_792 ?_
  obtain ⟨r, σ1, μ1, h1, h2, hR1⟩ := SF.2.2.2.2.2.2.2.2.2.2.2.2.2.2.2.1 n σ μ (xs (x3 + 1).toNatClampNeg) hR
  refine y_I hw1 hw2 hdis hg1 (q_runV C1 hw1 hl.1 (As := [.int (xs (x3 + 1).toNatClampNeg)]) (rest := []) (m_X11_judged l E1 (xs (x3 + 1).toNatClampNeg) σ r σ1 h1) yq_X11_judged tC_0 rfl rfl kw_850 ⟨Nat.le_of_ble_eq_true rfl, Nat.le_of_ble_eq_true rfl⟩ rfl (Nat.le_of_ble_eq_true rfl) ⟨Nat.le_of_ble_eq_true rfl, Nat.le_of_ble_eq_true rfl⟩ dL_law_793) (fun H hw1 hw2 => ?_)
  refine lv_aload_n hx hb dL_law_796 rfl (lv_at hl 2 rfl) ?_
  refine lv_aload_n hx hb dL_law_797 rfl (lv_at hl 0 rfl) ?_
  refine lv_iload_n hx hb dL_law_798 rfl (lv_at hl 3 rfl) ?_
  refine lv_iconst (v := 1) hx hb dL_law_799 (by decide) ?_
  refine lv_iadd hx hb dL_law_800 ?_
  refine va_sld hx hb hX hbl (fun z => Nat.not_le.mpr hbl (hg1 _ z)) hw1.2.2 hi.2.1 dL_law_801 ?_
  refine y_I hw2 hw1 (fun q a b => hdis q b a) hg2 (q_runV C2 hw2 hl.1 (As := [.int (xs (x3 + 1).toNatClampNeg)]) (rest := [.int r]) (m_X12_judged l E2 (xs (x3 + 1).toNatClampNeg) μ r μ1 h2) yq_X12_judged tM_0 rfl rfl kw_1342 ⟨Nat.le_of_ble_eq_true rfl, Nat.le_of_ble_eq_true rfl⟩ rfl (Nat.le_of_ble_eq_true rfl) ⟨Nat.le_of_ble_eq_true rfl, Nat.le_of_ble_eq_true rfl⟩ dL_law_802) (fun H hw2 hw1 => ?_)
  refine lv_icmp_eq (tgt := 1154) hx hb dL_law_805 (by decide) (fun _ => ?_) (fun q => absurd rfl q)
  exact hk σ1 μ1 H ls hR1 hw1 hw2 hl
set_option maxHeartbeats 4000000 in
set_option maxRecDepth 100000 in
theorem lc_16 {Rel : Nat → Mem → Mem → Prop} (SF : LawSteps Rel) {p : Program} {l : Launch} {e : Env} {s : State} {m : MethodId} {below : List Frame} {meth : Method} {c : Code} {E1 E2 : EV} {b L : Nat} {xs : Nat → Int32} (X : Lx E1 E2 p s m meth c b L xs) {n : Nat} {σ μ : Mem} {x3 : Int32} (hi : vp_in x3 L ∧ vp_in (x3 + 1) L ∧ vp_in (x3 + 2) L ∧ vp_in (x3 + 3) L ∧ vp_in (x3 + 4) L ∧ vp_in (x3 + 5) L ∧ vp_in (x3 + 6) L) {H : Heap} {ls : Array Slot} (hR : Rel (n + 1) σ μ) (hw1 : Wd TC E1 σ s H []) (hw2 : Wd TM E2 μ s H []) (hl : lv_has ls 4 [(0, .ref b), (1, .ref (E1.2.1 0)), (2, .ref (E2.2.1 0)), (3, .int x3)])
    (hk : ∀ (σ μ : Mem) (H : Heap) (ls : Array Slot), Rel n σ μ → Wd TC E1 σ s H [] → Wd TM E2 μ s H [] → lv_has ls 4 [(0, .ref b), (1, .ref (E1.2.1 0)), (2, .ref (E2.2.1 0)), (3, .int x3)] → W p l e room_1 s m #[Value.ref b] below meth c H [] 99 155119 (lw_Z below #[Value.ref b] s) (F0 m 1154 ls [])) : W p l e room_1 s m #[Value.ref b] below meth c H [] 99 155119 (lw_Z below #[Value.ref b] s) (F0 m 810 ls []) := by
  obtain ⟨C1, C2, hX, hbl, hdis, hg1, hg2⟩ := X
  have hx := C1.1
  have hb := C1.2.1
  have hown := C1.2.2.2.1
  have hts := C1.2.2.2.2.1
  refine lv_aload_n hx hb dL_law_810 rfl (lv_at hl 1 rfl) ?_
  refine lv_aload_n hx hb dL_law_811 rfl (lv_at hl 0 rfl) ?_
  refine lv_iload_n hx hb dL_law_812 rfl (lv_at hl 3 rfl) ?_
  refine lv_iconst (v := 1) hx hb dL_law_813 (by decide) ?_
  refine lv_iadd hx hb dL_law_814 ?_
  refine va_sld hx hb hX hbl (fun z => Nat.not_le.mpr hbl (hg1 _ z)) hw1.2.2 hi.2.1 dL_law_815 ?_
  refine lv_aload_n hx hb dL_law_816 rfl (lv_at hl 0 rfl) ?_
  refine lv_iload_n hx hb dL_law_817 rfl (lv_at hl 3 rfl) ?_
  refine lv_iconst (v := 2) hx hb dL_law_818 (by decide) ?_
  refine lv_iadd hx hb dL_law_819 ?_
  refine va_sld hx hb hX hbl (fun z => Nat.not_le.mpr hbl (hg1 _ z)) hw1.2.2 hi.2.2.1 dL_law_820 ?_
  refine lv_aload_n hx hb dL_law_821 rfl (lv_at hl 0 rfl) ?_
  refine lv_iload_n hx hb dL_law_822 rfl (lv_at hl 3 rfl) ?_
  refine lv_iconst (v := 3) hx hb dL_law_823 (by decide) ?_
  refine lv_iadd hx hb dL_law_824 ?_
  refine va_sld hx hb hX hbl (fun z => Nat.not_le.mpr hbl (hg1 _ z)) hw1.2.2 hi.2.2.2.1 dL_law_825 ?_
  obtain ⟨r, σ1, μ1, h1, h2, hR1⟩ := SF.2.2.2.2.2.2.2.2.2.2.2.2.2.2.2.2.1 n σ μ (xs (x3 + 1).toNatClampNeg) (xs (x3 + 2).toNatClampNeg) (xs (x3 + 3).toNatClampNeg) hR
  refine y_I hw1 hw2 hdis hg1 (q_runV C1 hw1 hl.1 (As := [.int (xs (x3 + 1).toNatClampNeg), .int (xs (x3 + 2).toNatClampNeg), .int (xs (x3 + 3).toNatClampNeg)]) (rest := []) (m_X11_order l E1 (xs (x3 + 1).toNatClampNeg) (xs (x3 + 2).toNatClampNeg) (xs (x3 + 3).toNatClampNeg) σ r σ1 h1) yq_X11_order tC_0 rfl rfl kw_868 ⟨Nat.le_of_ble_eq_true rfl, Nat.le_of_ble_eq_true rfl⟩ rfl (Nat.le_of_ble_eq_true rfl) ⟨Nat.le_of_ble_eq_true rfl, Nat.le_of_ble_eq_true rfl⟩ dL_law_826) (fun H hw1 hw2 => ?_)
  refine lv_aload_n hx hb dL_law_829 rfl (lv_at hl 2 rfl) ?_
  refine lv_aload_n hx hb dL_law_830 rfl (lv_at hl 0 rfl) ?_
  refine lv_iload_n hx hb dL_law_831 rfl (lv_at hl 3 rfl) ?_
  refine lv_iconst (v := 1) hx hb dL_law_832 (by decide) ?_
  refine lv_iadd hx hb dL_law_833 ?_
  refine va_sld hx hb hX hbl (fun z => Nat.not_le.mpr hbl (hg1 _ z)) hw1.2.2 hi.2.1 dL_law_834 ?_
  refine lv_aload_n hx hb dL_law_835 rfl (lv_at hl 0 rfl) ?_
  refine lv_iload_n hx hb dL_law_836 rfl (lv_at hl 3 rfl) ?_
  refine lv_iconst (v := 2) hx hb dL_law_837 (by decide) ?_
  refine lv_iadd hx hb dL_law_838 ?_
  refine va_sld hx hb hX hbl (fun z => Nat.not_le.mpr hbl (hg1 _ z)) hw1.2.2 hi.2.2.1 dL_law_839 ?_
  refine lv_aload_n hx hb dL_law_840 rfl (lv_at hl 0 rfl) ?_
  refine lv_iload_n hx hb dL_law_841 rfl (lv_at hl 3 rfl) ?_
  refine lv_iconst (v := 3) hx hb dL_law_842 (by decide) ?_
  refine lv_iadd hx hb dL_law_843 ?_
  refine va_sld hx hb hX hbl (fun z => Nat.not_le.mpr hbl (hg1 _ z)) hw1.2.2 hi.2.2.2.1 dL_law_844 ?_
  refine y_I hw2 hw1 (fun q a b => hdis q b a) hg2 (q_runV C2 hw2 hl.1 (As := [.int (xs (x3 + 1).toNatClampNeg), .int (xs (x3 + 2).toNatClampNeg), .int (xs (x3 + 3).toNatClampNeg)]) (rest := [.int r]) (m_X12_order l E2 (xs (x3 + 1).toNatClampNeg) (xs (x3 + 2).toNatClampNeg) (xs (x3 + 3).toNatClampNeg) μ r μ1 h2) yq_X12_order tM_0 rfl rfl kw_1350 ⟨Nat.le_of_ble_eq_true rfl, Nat.le_of_ble_eq_true rfl⟩ rfl (Nat.le_of_ble_eq_true rfl) ⟨Nat.le_of_ble_eq_true rfl, Nat.le_of_ble_eq_true rfl⟩ dL_law_845) (fun H hw2 hw1 => ?_)
  refine lv_icmp_eq (tgt := 1154) hx hb dL_law_848 (by decide) (fun _ => ?_) (fun q => absurd rfl q)
  exact hk σ1 μ1 H ls hR1 hw1 hw2 hl
set_option maxHeartbeats 4000000 in
set_option maxRecDepth 100000 in
theorem lc_17 {Rel : Nat → Mem → Mem → Prop} (SF : LawSteps Rel) {p : Program} {l : Launch} {e : Env} {s : State} {m : MethodId} {below : List Frame} {meth : Method} {c : Code} {E1 E2 : EV} {b L : Nat} {xs : Nat → Int32} (X : Lx E1 E2 p s m meth c b L xs) {n : Nat} {σ μ : Mem} {x3 : Int32} (hi : vp_in x3 L ∧ vp_in (x3 + 1) L ∧ vp_in (x3 + 2) L ∧ vp_in (x3 + 3) L ∧ vp_in (x3 + 4) L ∧ vp_in (x3 + 5) L ∧ vp_in (x3 + 6) L) {H : Heap} {ls : Array Slot} (hR : Rel (n + 1) σ μ) (hw1 : Wd TC E1 σ s H []) (hw2 : Wd TM E2 μ s H []) (hl : lv_has ls 4 [(0, .ref b), (1, .ref (E1.2.1 0)), (2, .ref (E2.2.1 0)), (3, .int x3)])
    (hk : ∀ (σ μ : Mem) (H : Heap) (ls : Array Slot), Rel n σ μ → Wd TC E1 σ s H [] → Wd TM E2 μ s H [] → lv_has ls 4 [(0, .ref b), (1, .ref (E1.2.1 0)), (2, .ref (E2.2.1 0)), (3, .int x3)] → W p l e room_1 s m #[Value.ref b] below meth c H [] 99 155119 (lw_Z below #[Value.ref b] s) (F0 m 1154 ls [])) : W p l e room_1 s m #[Value.ref b] below meth c H [] 99 155119 (lw_Z below #[Value.ref b] s) (F0 m 853 ls []) := by
  obtain ⟨C1, C2, hX, hbl, hdis, hg1, hg2⟩ := X
  have hx := C1.1
  have hb := C1.2.1
  have hown := C1.2.2.2.1
  have hts := C1.2.2.2.2.1
  refine lv_aload_n hx hb dL_law_853 rfl (lv_at hl 1 rfl) ?_
  obtain ⟨r, σ1, μ1, h1, h2, hR1⟩ := SF.2.2.2.2.2.2.2.2.2.2.2.2.2.2.2.2.2.1 n σ μ  hR
  refine y_I hw1 hw2 hdis hg1 (q_runV C1 hw1 hl.1 (As := []) (rest := []) (m_X11_take l E1  σ r σ1 h1) yq_X11_take tC_0 rfl rfl kw_876 ⟨Nat.le_of_ble_eq_true rfl, Nat.le_of_ble_eq_true rfl⟩ rfl (Nat.le_of_ble_eq_true rfl) ⟨Nat.le_of_ble_eq_true rfl, Nat.le_of_ble_eq_true rfl⟩ dL_law_854) (fun H hw1 hw2 => ?_)
  refine lv_aload_n hx hb dL_law_857 rfl (lv_at hl 2 rfl) ?_
  refine y_I hw2 hw1 (fun q a b => hdis q b a) hg2 (q_runV C2 hw2 hl.1 (As := []) (rest := [.int r]) (m_X12_take l E2  μ r μ1 h2) yq_X12_take tM_0 rfl rfl kw_1354 ⟨Nat.le_of_ble_eq_true rfl, Nat.le_of_ble_eq_true rfl⟩ rfl (Nat.le_of_ble_eq_true rfl) ⟨Nat.le_of_ble_eq_true rfl, Nat.le_of_ble_eq_true rfl⟩ dL_law_858) (fun H hw2 hw1 => ?_)
  refine lv_icmp_eq (tgt := 1154) hx hb dL_law_861 (by decide) (fun _ => ?_) (fun q => absurd rfl q)
  exact hk σ1 μ1 H ls hR1 hw1 hw2 hl
set_option maxHeartbeats 4000000 in
set_option maxRecDepth 100000 in
theorem lc_18 {Rel : Nat → Mem → Mem → Prop} (SF : LawSteps Rel) {p : Program} {l : Launch} {e : Env} {s : State} {m : MethodId} {below : List Frame} {meth : Method} {c : Code} {E1 E2 : EV} {b L : Nat} {xs : Nat → Int32} (X : Lx E1 E2 p s m meth c b L xs) {n : Nat} {σ μ : Mem} {x3 : Int32} (hi : vp_in x3 L ∧ vp_in (x3 + 1) L ∧ vp_in (x3 + 2) L ∧ vp_in (x3 + 3) L ∧ vp_in (x3 + 4) L ∧ vp_in (x3 + 5) L ∧ vp_in (x3 + 6) L) {H : Heap} {ls : Array Slot} (hR : Rel (n + 1) σ μ) (hw1 : Wd TC E1 σ s H []) (hw2 : Wd TM E2 μ s H []) (hl : lv_has ls 4 [(0, .ref b), (1, .ref (E1.2.1 0)), (2, .ref (E2.2.1 0)), (3, .int x3)])
    (hk : ∀ (σ μ : Mem) (H : Heap) (ls : Array Slot), Rel n σ μ → Wd TC E1 σ s H [] → Wd TM E2 μ s H [] → lv_has ls 4 [(0, .ref b), (1, .ref (E1.2.1 0)), (2, .ref (E2.2.1 0)), (3, .int x3)] → W p l e room_1 s m #[Value.ref b] below meth c H [] 99 155119 (lw_Z below #[Value.ref b] s) (F0 m 1154 ls [])) : W p l e room_1 s m #[Value.ref b] below meth c H [] 99 155119 (lw_Z below #[Value.ref b] s) (F0 m 866 ls []) := by
  obtain ⟨C1, C2, hX, hbl, hdis, hg1, hg2⟩ := X
  have hx := C1.1
  have hb := C1.2.1
  have hown := C1.2.2.2.1
  have hts := C1.2.2.2.2.1
  refine lv_aload_n hx hb dL_law_866 rfl (lv_at hl 1 rfl) ?_
  refine lv_aload_n hx hb dL_law_867 rfl (lv_at hl 0 rfl) ?_
  refine lv_iload_n hx hb dL_law_868 rfl (lv_at hl 3 rfl) ?_
  refine lv_iconst (v := 1) hx hb dL_law_869 (by decide) ?_
  refine lv_iadd hx hb dL_law_870 ?_
  refine va_sld hx hb hX hbl (fun z => Nat.not_le.mpr hbl (hg1 _ z)) hw1.2.2 hi.2.1 dL_law_871 ?_
  obtain ⟨r, σ1, μ1, h1, h2, hR1⟩ := SF.2.2.2.2.2.2.2.2.2.2.2.2.2.2.2.2.2.2.1 n σ μ (xs (x3 + 1).toNatClampNeg) hR
  refine y_I hw1 hw2 hdis hg1 (q_runV C1 hw1 hl.1 (As := [.int (xs (x3 + 1).toNatClampNeg)]) (rest := []) (m_X11_late l E1 (xs (x3 + 1).toNatClampNeg) σ r σ1 h1) yq_X11_late tC_0 rfl rfl kw_892 ⟨Nat.le_of_ble_eq_true rfl, Nat.le_of_ble_eq_true rfl⟩ rfl (Nat.le_of_ble_eq_true rfl) ⟨Nat.le_of_ble_eq_true rfl, Nat.le_of_ble_eq_true rfl⟩ dL_law_872) (fun H hw1 hw2 => ?_)
  refine lv_aload_n hx hb dL_law_875 rfl (lv_at hl 2 rfl) ?_
  refine lv_aload_n hx hb dL_law_876 rfl (lv_at hl 0 rfl) ?_
  refine lv_iload_n hx hb dL_law_877 rfl (lv_at hl 3 rfl) ?_
  refine lv_iconst (v := 1) hx hb dL_law_878 (by decide) ?_
  refine lv_iadd hx hb dL_law_879 ?_
  refine va_sld hx hb hX hbl (fun z => Nat.not_le.mpr hbl (hg1 _ z)) hw1.2.2 hi.2.1 dL_law_880 ?_
  refine y_I hw2 hw1 (fun q a b => hdis q b a) hg2 (q_runV C2 hw2 hl.1 (As := [.int (xs (x3 + 1).toNatClampNeg)]) (rest := [.int r]) (m_X12_late l E2 (xs (x3 + 1).toNatClampNeg) μ r μ1 h2) yq_X12_late tM_0 rfl rfl kw_1366 ⟨Nat.le_of_ble_eq_true rfl, Nat.le_of_ble_eq_true rfl⟩ rfl (Nat.le_of_ble_eq_true rfl) ⟨Nat.le_of_ble_eq_true rfl, Nat.le_of_ble_eq_true rfl⟩ dL_law_881) (fun H hw2 hw1 => ?_)
  refine lv_icmp_eq (tgt := 1154) hx hb dL_law_884 (by decide) (fun _ => ?_) (fun q => absurd rfl q)
  exact hk σ1 μ1 H ls hR1 hw1 hw2 hl
set_option maxHeartbeats 4000000 in
set_option maxRecDepth 100000 in
theorem lc_19 {Rel : Nat → Mem → Mem → Prop} (SF : LawSteps Rel) {p : Program} {l : Launch} {e : Env} {s : State} {m : MethodId} {below : List Frame} {meth : Method} {c : Code} {E1 E2 : EV} {b L : Nat} {xs : Nat → Int32} (X : Lx E1 E2 p s m meth c b L xs) {n : Nat} {σ μ : Mem} {x3 : Int32} (hi : vp_in x3 L ∧ vp_in (x3 + 1) L ∧ vp_in (x3 + 2) L ∧ vp_in (x3 + 3) L ∧ vp_in (x3 + 4) L ∧ vp_in (x3 + 5) L ∧ vp_in (x3 + 6) L) {H : Heap} {ls : Array Slot} (hR : Rel (n + 1) σ μ) (hw1 : Wd TC E1 σ s H []) (hw2 : Wd TM E2 μ s H []) (hl : lv_has ls 4 [(0, .ref b), (1, .ref (E1.2.1 0)), (2, .ref (E2.2.1 0)), (3, .int x3)])
    (hk : ∀ (σ μ : Mem) (H : Heap) (ls : Array Slot), Rel n σ μ → Wd TC E1 σ s H [] → Wd TM E2 μ s H [] → lv_has ls 4 [(0, .ref b), (1, .ref (E1.2.1 0)), (2, .ref (E2.2.1 0)), (3, .int x3)] → W p l e room_1 s m #[Value.ref b] below meth c H [] 99 155119 (lw_Z below #[Value.ref b] s) (F0 m 1154 ls [])) : W p l e room_1 s m #[Value.ref b] below meth c H [] 99 155119 (lw_Z below #[Value.ref b] s) (F0 m 889 ls []) := by
  obtain ⟨C1, C2, hX, hbl, hdis, hg1, hg2⟩ := X
  have hx := C1.1
  have hb := C1.2.1
  have hown := C1.2.2.2.1
  have hts := C1.2.2.2.2.1
  refine lv_aload_n hx hb dL_law_889 rfl (lv_at hl 1 rfl) ?_
  refine lv_aload_n hx hb dL_law_890 rfl (lv_at hl 0 rfl) ?_
  refine lv_iload_n hx hb dL_law_891 rfl (lv_at hl 3 rfl) ?_
  refine lv_iconst (v := 1) hx hb dL_law_892 (by decide) ?_
  refine lv_iadd hx hb dL_law_893 ?_
  refine va_sld hx hb hX hbl (fun z => Nat.not_le.mpr hbl (hg1 _ z)) hw1.2.2 hi.2.1 dL_law_894 ?_
  refine lv_aload_n hx hb dL_law_895 rfl (lv_at hl 0 rfl) ?_
  refine lv_iload_n hx hb dL_law_896 rfl (lv_at hl 3 rfl) ?_
  refine lv_iconst (v := 2) hx hb dL_law_897 (by decide) ?_
  refine lv_iadd hx hb dL_law_898 ?_
  refine va_sld hx hb hX hbl (fun z => Nat.not_le.mpr hbl (hg1 _ z)) hw1.2.2 hi.2.2.1 dL_law_899 ?_
  refine lv_aload_n hx hb dL_law_900 rfl (lv_at hl 0 rfl) ?_
  refine lv_iload_n hx hb dL_law_901 rfl (lv_at hl 3 rfl) ?_
  refine lv_iconst (v := 3) hx hb dL_law_902 (by decide) ?_
  refine lv_iadd hx hb dL_law_903 ?_
  refine va_sld hx hb hX hbl (fun z => Nat.not_le.mpr hbl (hg1 _ z)) hw1.2.2 hi.2.2.2.1 dL_law_904 ?_
  refine lv_aload_n hx hb dL_law_905 rfl (lv_at hl 0 rfl) ?_
  refine lv_iload_n hx hb dL_law_906 rfl (lv_at hl 3 rfl) ?_
  refine lv_iconst (v := 4) hx hb dL_law_907 (by decide) ?_
  refine lv_iadd hx hb dL_law_908 ?_
  refine va_sld hx hb hX hbl (fun z => Nat.not_le.mpr hbl (hg1 _ z)) hw1.2.2 hi.2.2.2.2.1 dL_law_909 ?_
  refine lv_aload_n hx hb dL_law_910 rfl (lv_at hl 0 rfl) ?_
  refine lv_iload_n hx hb dL_law_911 rfl (lv_at hl 3 rfl) ?_
  refine lv_iconst (v := 5) hx hb dL_law_912 (by decide) ?_
  refine lv_iadd hx hb dL_law_913 ?_
  refine va_sld hx hb hX hbl (fun z => Nat.not_le.mpr hbl (hg1 _ z)) hw1.2.2 hi.2.2.2.2.2.1 dL_law_914 ?_
  obtain ⟨r, σ1, μ1, h1, h2, hR1⟩ := SF.2.2.2.2.2.2.2.2.2.2.2.2.2.2.2.2.2.2.2.1 n σ μ (xs (x3 + 1).toNatClampNeg) (xs (x3 + 2).toNatClampNeg) (xs (x3 + 3).toNatClampNeg) (xs (x3 + 4).toNatClampNeg) (xs (x3 + 5).toNatClampNeg) hR
  refine y_I hw1 hw2 hdis hg1 (q_runV C1 hw1 hl.1 (As := [.int (xs (x3 + 1).toNatClampNeg), .int (xs (x3 + 2).toNatClampNeg), .int (xs (x3 + 3).toNatClampNeg), .int (xs (x3 + 4).toNatClampNeg), .int (xs (x3 + 5).toNatClampNeg)]) (rest := []) (m_X11_ridge l E1 (xs (x3 + 1).toNatClampNeg) (xs (x3 + 2).toNatClampNeg) (xs (x3 + 3).toNatClampNeg) (xs (x3 + 4).toNatClampNeg) (xs (x3 + 5).toNatClampNeg) σ r σ1 h1) yq_X11_ridge tC_0 rfl rfl kw_897 ⟨Nat.le_of_ble_eq_true rfl, Nat.le_of_ble_eq_true rfl⟩ rfl (Nat.le_of_ble_eq_true rfl) ⟨Nat.le_of_ble_eq_true rfl, Nat.le_of_ble_eq_true rfl⟩ dL_law_915) (fun H hw1 hw2 => ?_)
  refine lv_aload_n hx hb dL_law_918 rfl (lv_at hl 2 rfl) ?_
  refine lv_aload_n hx hb dL_law_919 rfl (lv_at hl 0 rfl) ?_
  refine lv_iload_n hx hb dL_law_920 rfl (lv_at hl 3 rfl) ?_
  refine lv_iconst (v := 1) hx hb dL_law_921 (by decide) ?_
  refine lv_iadd hx hb dL_law_922 ?_
  refine va_sld hx hb hX hbl (fun z => Nat.not_le.mpr hbl (hg1 _ z)) hw1.2.2 hi.2.1 dL_law_923 ?_
  refine lv_aload_n hx hb dL_law_924 rfl (lv_at hl 0 rfl) ?_
  refine lv_iload_n hx hb dL_law_925 rfl (lv_at hl 3 rfl) ?_
  refine lv_iconst (v := 2) hx hb dL_law_926 (by decide) ?_
  refine lv_iadd hx hb dL_law_927 ?_
  refine va_sld hx hb hX hbl (fun z => Nat.not_le.mpr hbl (hg1 _ z)) hw1.2.2 hi.2.2.1 dL_law_928 ?_
  refine lv_aload_n hx hb dL_law_929 rfl (lv_at hl 0 rfl) ?_
  refine lv_iload_n hx hb dL_law_930 rfl (lv_at hl 3 rfl) ?_
  refine lv_iconst (v := 3) hx hb dL_law_931 (by decide) ?_
  refine lv_iadd hx hb dL_law_932 ?_
  refine va_sld hx hb hX hbl (fun z => Nat.not_le.mpr hbl (hg1 _ z)) hw1.2.2 hi.2.2.2.1 dL_law_933 ?_
  refine lv_aload_n hx hb dL_law_934 rfl (lv_at hl 0 rfl) ?_
  refine lv_iload_n hx hb dL_law_935 rfl (lv_at hl 3 rfl) ?_
  refine lv_iconst (v := 4) hx hb dL_law_936 (by decide) ?_
  refine lv_iadd hx hb dL_law_937 ?_
  refine va_sld hx hb hX hbl (fun z => Nat.not_le.mpr hbl (hg1 _ z)) hw1.2.2 hi.2.2.2.2.1 dL_law_938 ?_
  refine lv_aload_n hx hb dL_law_939 rfl (lv_at hl 0 rfl) ?_
  refine lv_iload_n hx hb dL_law_940 rfl (lv_at hl 3 rfl) ?_
  refine lv_iconst (v := 5) hx hb dL_law_941 (by decide) ?_
  refine lv_iadd hx hb dL_law_942 ?_
  refine va_sld hx hb hX hbl (fun z => Nat.not_le.mpr hbl (hg1 _ z)) hw1.2.2 hi.2.2.2.2.2.1 dL_law_943 ?_
  refine y_I hw2 hw1 (fun q a b => hdis q b a) hg2 (q_runV C2 hw2 hl.1 (As := [.int (xs (x3 + 1).toNatClampNeg), .int (xs (x3 + 2).toNatClampNeg), .int (xs (x3 + 3).toNatClampNeg), .int (xs (x3 + 4).toNatClampNeg), .int (xs (x3 + 5).toNatClampNeg)]) (rest := [.int r]) (m_X12_ridge l E2 (xs (x3 + 1).toNatClampNeg) (xs (x3 + 2).toNatClampNeg) (xs (x3 + 3).toNatClampNeg) (xs (x3 + 4).toNatClampNeg) (xs (x3 + 5).toNatClampNeg) μ r μ1 h2) yq_X12_ridge tM_0 rfl rfl kw_1370 ⟨Nat.le_of_ble_eq_true rfl, Nat.le_of_ble_eq_true rfl⟩ rfl (Nat.le_of_ble_eq_true rfl) ⟨Nat.le_of_ble_eq_true rfl, Nat.le_of_ble_eq_true rfl⟩ dL_law_944) (fun H hw2 hw1 => ?_)
  refine lv_icmp_eq (tgt := 1154) hx hb dL_law_947 (by decide) (fun _ => ?_) (fun q => absurd rfl q)
  exact hk σ1 μ1 H ls hR1 hw1 hw2 hl
set_option maxHeartbeats 4000000 in
set_option maxRecDepth 100000 in
theorem lc_20 {Rel : Nat → Mem → Mem → Prop} (SF : LawSteps Rel) {p : Program} {l : Launch} {e : Env} {s : State} {m : MethodId} {below : List Frame} {meth : Method} {c : Code} {E1 E2 : EV} {b L : Nat} {xs : Nat → Int32} (X : Lx E1 E2 p s m meth c b L xs) {n : Nat} {σ μ : Mem} {x3 : Int32} (hi : vp_in x3 L ∧ vp_in (x3 + 1) L ∧ vp_in (x3 + 2) L ∧ vp_in (x3 + 3) L ∧ vp_in (x3 + 4) L ∧ vp_in (x3 + 5) L ∧ vp_in (x3 + 6) L) {H : Heap} {ls : Array Slot} (hR : Rel (n + 1) σ μ) (hw1 : Wd TC E1 σ s H []) (hw2 : Wd TM E2 μ s H []) (hl : lv_has ls 4 [(0, .ref b), (1, .ref (E1.2.1 0)), (2, .ref (E2.2.1 0)), (3, .int x3)])
    (hk : ∀ (σ μ : Mem) (H : Heap) (ls : Array Slot), Rel n σ μ → Wd TC E1 σ s H [] → Wd TM E2 μ s H [] → lv_has ls 4 [(0, .ref b), (1, .ref (E1.2.1 0)), (2, .ref (E2.2.1 0)), (3, .int x3)] → W p l e room_1 s m #[Value.ref b] below meth c H [] 99 155119 (lw_Z below #[Value.ref b] s) (F0 m 1154 ls [])) : W p l e room_1 s m #[Value.ref b] below meth c H [] 99 155119 (lw_Z below #[Value.ref b] s) (F0 m 952 ls []) := by
  obtain ⟨C1, C2, hX, hbl, hdis, hg1, hg2⟩ := X
  have hx := C1.1
  have hb := C1.2.1
  have hown := C1.2.2.2.1
  have hts := C1.2.2.2.2.1
  refine lv_aload_n hx hb dL_law_952 rfl (lv_at hl 1 rfl) ?_
  refine lv_aload_n hx hb dL_law_953 rfl (lv_at hl 0 rfl) ?_
  refine lv_iload_n hx hb dL_law_954 rfl (lv_at hl 3 rfl) ?_
  refine lv_iconst (v := 1) hx hb dL_law_955 (by decide) ?_
  refine lv_iadd hx hb dL_law_956 ?_
  refine va_sld hx hb hX hbl (fun z => Nat.not_le.mpr hbl (hg1 _ z)) hw1.2.2 hi.2.1 dL_law_957 ?_
  refine lv_aload_n hx hb dL_law_958 rfl (lv_at hl 0 rfl) ?_
  refine lv_iload_n hx hb dL_law_959 rfl (lv_at hl 3 rfl) ?_
  refine lv_iconst (v := 2) hx hb dL_law_960 (by decide) ?_
  refine lv_iadd hx hb dL_law_961 ?_
  refine va_sld hx hb hX hbl (fun z => Nat.not_le.mpr hbl (hg1 _ z)) hw1.2.2 hi.2.2.1 dL_law_962 ?_
  refine lv_aload_n hx hb dL_law_963 rfl (lv_at hl 0 rfl) ?_
  refine lv_iload_n hx hb dL_law_964 rfl (lv_at hl 3 rfl) ?_
  refine lv_iconst (v := 3) hx hb dL_law_965 (by decide) ?_
  refine lv_iadd hx hb dL_law_966 ?_
  refine va_sld hx hb hX hbl (fun z => Nat.not_le.mpr hbl (hg1 _ z)) hw1.2.2 hi.2.2.2.1 dL_law_967 ?_
  refine lv_aload_n hx hb dL_law_968 rfl (lv_at hl 0 rfl) ?_
  refine lv_iload_n hx hb dL_law_969 rfl (lv_at hl 3 rfl) ?_
  refine lv_iconst (v := 4) hx hb dL_law_970 (by decide) ?_
  refine lv_iadd hx hb dL_law_971 ?_
  refine va_sld hx hb hX hbl (fun z => Nat.not_le.mpr hbl (hg1 _ z)) hw1.2.2 hi.2.2.2.2.1 dL_law_972 ?_
  obtain ⟨r, σ1, μ1, h1, h2, hR1⟩ := SF.2.2.2.2.2.2.2.2.2.2.2.2.2.2.2.2.2.2.2.2.1 n σ μ (xs (x3 + 1).toNatClampNeg) (xs (x3 + 2).toNatClampNeg) (xs (x3 + 3).toNatClampNeg) (xs (x3 + 4).toNatClampNeg) hR
  refine y_L hw1 hw2 hdis hg1 (q_runV C1 hw1 hl.1 (As := [.int (xs (x3 + 1).toNatClampNeg), .int (xs (x3 + 2).toNatClampNeg), .int (xs (x3 + 3).toNatClampNeg), .int (xs (x3 + 4).toNatClampNeg)]) (rest := []) (m_X11_run l E1 (xs (x3 + 1).toNatClampNeg) (xs (x3 + 2).toNatClampNeg) (xs (x3 + 3).toNatClampNeg) (xs (x3 + 4).toNatClampNeg) σ r σ1 h1) yq_X11_run tC_0 rfl rfl kw_910 ⟨Nat.le_of_ble_eq_true rfl, Nat.le_of_ble_eq_true rfl⟩ rfl (Nat.le_of_ble_eq_true rfl) ⟨Nat.le_of_ble_eq_true rfl, Nat.le_of_ble_eq_true rfl⟩ dL_law_973) (fun H hw1 hw2 => ?_)
  refine lv_aload_n hx hb dL_law_976 rfl (lv_at hl 2 rfl) ?_
  refine lv_aload_n hx hb dL_law_977 rfl (lv_at hl 0 rfl) ?_
  refine lv_iload_n hx hb dL_law_978 rfl (lv_at hl 3 rfl) ?_
  refine lv_iconst (v := 1) hx hb dL_law_979 (by decide) ?_
  refine lv_iadd hx hb dL_law_980 ?_
  refine va_sld hx hb hX hbl (fun z => Nat.not_le.mpr hbl (hg1 _ z)) hw1.2.2 hi.2.1 dL_law_981 ?_
  refine lv_aload_n hx hb dL_law_982 rfl (lv_at hl 0 rfl) ?_
  refine lv_iload_n hx hb dL_law_983 rfl (lv_at hl 3 rfl) ?_
  refine lv_iconst (v := 2) hx hb dL_law_984 (by decide) ?_
  refine lv_iadd hx hb dL_law_985 ?_
  refine va_sld hx hb hX hbl (fun z => Nat.not_le.mpr hbl (hg1 _ z)) hw1.2.2 hi.2.2.1 dL_law_986 ?_
  refine lv_aload_n hx hb dL_law_987 rfl (lv_at hl 0 rfl) ?_
  refine lv_iload_n hx hb dL_law_988 rfl (lv_at hl 3 rfl) ?_
  refine lv_iconst (v := 3) hx hb dL_law_989 (by decide) ?_
  refine lv_iadd hx hb dL_law_990 ?_
  refine va_sld hx hb hX hbl (fun z => Nat.not_le.mpr hbl (hg1 _ z)) hw1.2.2 hi.2.2.2.1 dL_law_991 ?_
  refine lv_aload_n hx hb dL_law_992 rfl (lv_at hl 0 rfl) ?_
  refine lv_iload_n hx hb dL_law_993 rfl (lv_at hl 3 rfl) ?_
  refine lv_iconst (v := 4) hx hb dL_law_994 (by decide) ?_
  refine lv_iadd hx hb dL_law_995 ?_
  refine va_sld hx hb hX hbl (fun z => Nat.not_le.mpr hbl (hg1 _ z)) hw1.2.2 hi.2.2.2.2.1 dL_law_996 ?_
  refine y_L hw2 hw1 (fun q a b => hdis q b a) hg2 (q_runV C2 hw2 hl.1 (As := [.int (xs (x3 + 1).toNatClampNeg), .int (xs (x3 + 2).toNatClampNeg), .int (xs (x3 + 3).toNatClampNeg), .int (xs (x3 + 4).toNatClampNeg)]) (rest := [.long r]) (m_X12_run l E2 (xs (x3 + 1).toNatClampNeg) (xs (x3 + 2).toNatClampNeg) (xs (x3 + 3).toNatClampNeg) (xs (x3 + 4).toNatClampNeg) μ r μ1 h2) yq_X12_run tM_0 rfl rfl kw_1398 ⟨Nat.le_of_ble_eq_true rfl, Nat.le_of_ble_eq_true rfl⟩ rfl (Nat.le_of_ble_eq_true rfl) ⟨Nat.le_of_ble_eq_true rfl, Nat.le_of_ble_eq_true rfl⟩ dL_law_997) (fun H hw2 hw1 => ?_)
  refine W.lcmp hx hb dL_law_1000 ?_
  refine lv_if_eq (tgt := 1154) hx hb dL_law_1001 (by decide) (fun _ => ?_) (fun q => absurd (lg_self _) q)
  exact hk σ1 μ1 H ls hR1 hw1 hw2 hl
set_option maxHeartbeats 4000000 in
set_option maxRecDepth 100000 in
theorem lc_21 {Rel : Nat → Mem → Mem → Prop} (SF : LawSteps Rel) {p : Program} {l : Launch} {e : Env} {s : State} {m : MethodId} {below : List Frame} {meth : Method} {c : Code} {E1 E2 : EV} {b L : Nat} {xs : Nat → Int32} (X : Lx E1 E2 p s m meth c b L xs) {n : Nat} {σ μ : Mem} {x3 : Int32} (hi : vp_in x3 L ∧ vp_in (x3 + 1) L ∧ vp_in (x3 + 2) L ∧ vp_in (x3 + 3) L ∧ vp_in (x3 + 4) L ∧ vp_in (x3 + 5) L ∧ vp_in (x3 + 6) L) {H : Heap} {ls : Array Slot} (hR : Rel (n + 1) σ μ) (hw1 : Wd TC E1 σ s H []) (hw2 : Wd TM E2 μ s H []) (hl : lv_has ls 4 [(0, .ref b), (1, .ref (E1.2.1 0)), (2, .ref (E2.2.1 0)), (3, .int x3)])
    (hk : ∀ (σ μ : Mem) (H : Heap) (ls : Array Slot), Rel n σ μ → Wd TC E1 σ s H [] → Wd TM E2 μ s H [] → lv_has ls 4 [(0, .ref b), (1, .ref (E1.2.1 0)), (2, .ref (E2.2.1 0)), (3, .int x3)] → W p l e room_1 s m #[Value.ref b] below meth c H [] 99 155119 (lw_Z below #[Value.ref b] s) (F0 m 1154 ls [])) : W p l e room_1 s m #[Value.ref b] below meth c H [] 99 155119 (lw_Z below #[Value.ref b] s) (F0 m 1006 ls []) := by
  obtain ⟨C1, C2, hX, hbl, hdis, hg1, hg2⟩ := X
  have hx := C1.1
  have hb := C1.2.1
  have hown := C1.2.2.2.1
  have hts := C1.2.2.2.2.1
  refine lv_aload_n hx hb dL_law_1006 rfl (lv_at hl 1 rfl) ?_
  refine lv_aload_n hx hb dL_law_1007 rfl (lv_at hl 0 rfl) ?_
  refine lv_iload_n hx hb dL_law_1008 rfl (lv_at hl 3 rfl) ?_
  refine lv_iconst (v := 1) hx hb dL_law_1009 (by decide) ?_
  refine lv_iadd hx hb dL_law_1010 ?_
  refine va_sld hx hb hX hbl (fun z => Nat.not_le.mpr hbl (hg1 _ z)) hw1.2.2 hi.2.1 dL_law_1011 ?_
  refine lv_aload_n hx hb dL_law_1012 rfl (lv_at hl 0 rfl) ?_
  refine lv_iload_n hx hb dL_law_1013 rfl (lv_at hl 3 rfl) ?_
  refine lv_iconst (v := 2) hx hb dL_law_1014 (by decide) ?_
  refine lv_iadd hx hb dL_law_1015 ?_
  refine va_sld hx hb hX hbl (fun z => Nat.not_le.mpr hbl (hg1 _ z)) hw1.2.2 hi.2.2.1 dL_law_1016 ?_
  refine lv_aload_n hx hb dL_law_1017 rfl (lv_at hl 0 rfl) ?_
  refine lv_iload_n hx hb dL_law_1018 rfl (lv_at hl 3 rfl) ?_
  refine lv_iconst (v := 3) hx hb dL_law_1019 (by decide) ?_
  refine lv_iadd hx hb dL_law_1020 ?_
  refine va_sld hx hb hX hbl (fun z => Nat.not_le.mpr hbl (hg1 _ z)) hw1.2.2 hi.2.2.2.1 dL_law_1021 ?_
  obtain ⟨r, σ1, μ1, h1, h2, hR1⟩ := SF.2.2.2.2.2.2.2.2.2.2.2.2.2.2.2.2.2.2.2.2.2.1 n σ μ (xs (x3 + 1).toNatClampNeg) (xs (x3 + 2).toNatClampNeg) (xs (x3 + 3).toNatClampNeg) hR
  refine y_I hw1 hw2 hdis hg1 (q_runV C1 hw1 hl.1 (As := [.int (xs (x3 + 1).toNatClampNeg), .int (xs (x3 + 2).toNatClampNeg), .int (xs (x3 + 3).toNatClampNeg)]) (rest := []) (m_X11_act l E1 (xs (x3 + 1).toNatClampNeg) (xs (x3 + 2).toNatClampNeg) (xs (x3 + 3).toNatClampNeg) σ r σ1 h1) yq_X11_act tC_0 rfl rfl kw_919 ⟨Nat.le_of_ble_eq_true rfl, Nat.le_of_ble_eq_true rfl⟩ rfl (Nat.le_of_ble_eq_true rfl) ⟨Nat.le_of_ble_eq_true rfl, Nat.le_of_ble_eq_true rfl⟩ dL_law_1022) (fun H hw1 hw2 => ?_)
  refine lv_aload_n hx hb dL_law_1025 rfl (lv_at hl 2 rfl) ?_
  refine lv_aload_n hx hb dL_law_1026 rfl (lv_at hl 0 rfl) ?_
  refine lv_iload_n hx hb dL_law_1027 rfl (lv_at hl 3 rfl) ?_
  refine lv_iconst (v := 1) hx hb dL_law_1028 (by decide) ?_
  refine lv_iadd hx hb dL_law_1029 ?_
  refine va_sld hx hb hX hbl (fun z => Nat.not_le.mpr hbl (hg1 _ z)) hw1.2.2 hi.2.1 dL_law_1030 ?_
  refine lv_aload_n hx hb dL_law_1031 rfl (lv_at hl 0 rfl) ?_
  refine lv_iload_n hx hb dL_law_1032 rfl (lv_at hl 3 rfl) ?_
  refine lv_iconst (v := 2) hx hb dL_law_1033 (by decide) ?_
  refine lv_iadd hx hb dL_law_1034 ?_
  refine va_sld hx hb hX hbl (fun z => Nat.not_le.mpr hbl (hg1 _ z)) hw1.2.2 hi.2.2.1 dL_law_1035 ?_
  refine lv_aload_n hx hb dL_law_1036 rfl (lv_at hl 0 rfl) ?_
  refine lv_iload_n hx hb dL_law_1037 rfl (lv_at hl 3 rfl) ?_
  refine lv_iconst (v := 3) hx hb dL_law_1038 (by decide) ?_
  refine lv_iadd hx hb dL_law_1039 ?_
  refine va_sld hx hb hX hbl (fun z => Nat.not_le.mpr hbl (hg1 _ z)) hw1.2.2 hi.2.2.2.1 dL_law_1040 ?_
  refine y_I hw2 hw1 (fun q a b => hdis q b a) hg2 (q_runV C2 hw2 hl.1 (As := [.int (xs (x3 + 1).toNatClampNeg), .int (xs (x3 + 2).toNatClampNeg), .int (xs (x3 + 3).toNatClampNeg)]) (rest := [.int r]) (m_X12_act l E2 (xs (x3 + 1).toNatClampNeg) (xs (x3 + 2).toNatClampNeg) (xs (x3 + 3).toNatClampNeg) μ r μ1 h2) yq_X12_act tM_0 rfl rfl kw_1406 ⟨Nat.le_of_ble_eq_true rfl, Nat.le_of_ble_eq_true rfl⟩ rfl (Nat.le_of_ble_eq_true rfl) ⟨Nat.le_of_ble_eq_true rfl, Nat.le_of_ble_eq_true rfl⟩ dL_law_1041) (fun H hw2 hw1 => ?_)
  refine lv_icmp_eq (tgt := 1154) hx hb dL_law_1044 (by decide) (fun _ => ?_) (fun q => absurd rfl q)
  exact hk σ1 μ1 H ls hR1 hw1 hw2 hl
set_option maxHeartbeats 4000000 in
set_option maxRecDepth 100000 in
theorem lc_22 {Rel : Nat → Mem → Mem → Prop} (SF : LawSteps Rel) {p : Program} {l : Launch} {e : Env} {s : State} {m : MethodId} {below : List Frame} {meth : Method} {c : Code} {E1 E2 : EV} {b L : Nat} {xs : Nat → Int32} (X : Lx E1 E2 p s m meth c b L xs) {n : Nat} {σ μ : Mem} {x3 : Int32} (hi : vp_in x3 L ∧ vp_in (x3 + 1) L ∧ vp_in (x3 + 2) L ∧ vp_in (x3 + 3) L ∧ vp_in (x3 + 4) L ∧ vp_in (x3 + 5) L ∧ vp_in (x3 + 6) L) {H : Heap} {ls : Array Slot} (hR : Rel (n + 1) σ μ) (hw1 : Wd TC E1 σ s H []) (hw2 : Wd TM E2 μ s H []) (hl : lv_has ls 4 [(0, .ref b), (1, .ref (E1.2.1 0)), (2, .ref (E2.2.1 0)), (3, .int x3)])
    (hk : ∀ (σ μ : Mem) (H : Heap) (ls : Array Slot), Rel n σ μ → Wd TC E1 σ s H [] → Wd TM E2 μ s H [] → lv_has ls 4 [(0, .ref b), (1, .ref (E1.2.1 0)), (2, .ref (E2.2.1 0)), (3, .int x3)] → W p l e room_1 s m #[Value.ref b] below meth c H [] 99 155119 (lw_Z below #[Value.ref b] s) (F0 m 1154 ls [])) : W p l e room_1 s m #[Value.ref b] below meth c H [] 99 155119 (lw_Z below #[Value.ref b] s) (F0 m 1049 ls []) := by
  obtain ⟨C1, C2, hX, hbl, hdis, hg1, hg2⟩ := X
  have hx := C1.1
  have hb := C1.2.1
  have hown := C1.2.2.2.1
  have hts := C1.2.2.2.2.1
  refine lv_aload_n hx hb dL_law_1049 rfl (lv_at hl 1 rfl) ?_
  refine lv_aload_n hx hb dL_law_1050 rfl (lv_at hl 0 rfl) ?_
  refine lv_iload_n hx hb dL_law_1051 rfl (lv_at hl 3 rfl) ?_
  refine lv_iconst (v := 1) hx hb dL_law_1052 (by decide) ?_
  refine lv_iadd hx hb dL_law_1053 ?_
  refine va_sld hx hb hX hbl (fun z => Nat.not_le.mpr hbl (hg1 _ z)) hw1.2.2 hi.2.1 dL_law_1054 ?_
  obtain ⟨r, σ1, μ1, h1, h2, hR1⟩ := SF.2.2.2.2.2.2.2.2.2.2.2.2.2.2.2.2.2.2.2.2.2.2.1 n σ μ (xs (x3 + 1).toNatClampNeg) hR
  refine y_I hw1 hw2 hdis hg1 (q_runV C1 hw1 hl.1 (As := [.int (xs (x3 + 1).toNatClampNeg)]) (rest := []) (m_X11_trace l E1 (xs (x3 + 1).toNatClampNeg) σ r σ1 h1) yq_X11_trace tC_0 rfl rfl kw_949 ⟨Nat.le_of_ble_eq_true rfl, Nat.le_of_ble_eq_true rfl⟩ rfl (Nat.le_of_ble_eq_true rfl) ⟨Nat.le_of_ble_eq_true rfl, Nat.le_of_ble_eq_true rfl⟩ dL_law_1055) (fun H hw1 hw2 => ?_)
  refine lv_aload_n hx hb dL_law_1058 rfl (lv_at hl 2 rfl) ?_
  refine lv_aload_n hx hb dL_law_1059 rfl (lv_at hl 0 rfl) ?_
  refine lv_iload_n hx hb dL_law_1060 rfl (lv_at hl 3 rfl) ?_
  refine lv_iconst (v := 1) hx hb dL_law_1061 (by decide) ?_
  refine lv_iadd hx hb dL_law_1062 ?_
  refine va_sld hx hb hX hbl (fun z => Nat.not_le.mpr hbl (hg1 _ z)) hw1.2.2 hi.2.1 dL_law_1063 ?_
  refine y_I hw2 hw1 (fun q a b => hdis q b a) hg2 (q_runV C2 hw2 hl.1 (As := [.int (xs (x3 + 1).toNatClampNeg)]) (rest := [.int r]) (m_X12_trace l E2 (xs (x3 + 1).toNatClampNeg) μ r μ1 h2) yq_X12_trace tM_0 rfl rfl kw_1441 ⟨Nat.le_of_ble_eq_true rfl, Nat.le_of_ble_eq_true rfl⟩ rfl (Nat.le_of_ble_eq_true rfl) ⟨Nat.le_of_ble_eq_true rfl, Nat.le_of_ble_eq_true rfl⟩ dL_law_1064) (fun H hw2 hw1 => ?_)
  refine lv_icmp_eq (tgt := 1154) hx hb dL_law_1067 (by decide) (fun _ => ?_) (fun q => absurd rfl q)
  exact hk σ1 μ1 H ls hR1 hw1 hw2 hl
set_option maxHeartbeats 4000000 in
set_option maxRecDepth 100000 in
theorem lc_23 {Rel : Nat → Mem → Mem → Prop} (SF : LawSteps Rel) {p : Program} {l : Launch} {e : Env} {s : State} {m : MethodId} {below : List Frame} {meth : Method} {c : Code} {E1 E2 : EV} {b L : Nat} {xs : Nat → Int32} (X : Lx E1 E2 p s m meth c b L xs) {n : Nat} {σ μ : Mem} {x3 : Int32} (hi : vp_in x3 L ∧ vp_in (x3 + 1) L ∧ vp_in (x3 + 2) L ∧ vp_in (x3 + 3) L ∧ vp_in (x3 + 4) L ∧ vp_in (x3 + 5) L ∧ vp_in (x3 + 6) L) {H : Heap} {ls : Array Slot} (hR : Rel (n + 1) σ μ) (hw1 : Wd TC E1 σ s H []) (hw2 : Wd TM E2 μ s H []) (hl : lv_has ls 4 [(0, .ref b), (1, .ref (E1.2.1 0)), (2, .ref (E2.2.1 0)), (3, .int x3)])
    (hk : ∀ (σ μ : Mem) (H : Heap) (ls : Array Slot), Rel n σ μ → Wd TC E1 σ s H [] → Wd TM E2 μ s H [] → lv_has ls 4 [(0, .ref b), (1, .ref (E1.2.1 0)), (2, .ref (E2.2.1 0)), (3, .int x3)] → W p l e room_1 s m #[Value.ref b] below meth c H [] 99 155119 (lw_Z below #[Value.ref b] s) (F0 m 1154 ls [])) : W p l e room_1 s m #[Value.ref b] below meth c H [] 99 155119 (lw_Z below #[Value.ref b] s) (F0 m 1072 ls []) := by
  obtain ⟨C1, C2, hX, hbl, hdis, hg1, hg2⟩ := X
  have hx := C1.1
  have hb := C1.2.1
  have hown := C1.2.2.2.1
  have hts := C1.2.2.2.2.1
  refine lv_aload_n hx hb dL_law_1072 rfl (lv_at hl 1 rfl) ?_
  refine lv_aload_n hx hb dL_law_1073 rfl (lv_at hl 0 rfl) ?_
  refine lv_iload_n hx hb dL_law_1074 rfl (lv_at hl 3 rfl) ?_
  refine lv_iconst (v := 1) hx hb dL_law_1075 (by decide) ?_
  refine lv_iadd hx hb dL_law_1076 ?_
  refine va_sld hx hb hX hbl (fun z => Nat.not_le.mpr hbl (hg1 _ z)) hw1.2.2 hi.2.1 dL_law_1077 ?_
  refine lv_aload_n hx hb dL_law_1078 rfl (lv_at hl 0 rfl) ?_
  refine lv_iload_n hx hb dL_law_1079 rfl (lv_at hl 3 rfl) ?_
  refine lv_iconst (v := 2) hx hb dL_law_1080 (by decide) ?_
  refine lv_iadd hx hb dL_law_1081 ?_
  refine va_sld hx hb hX hbl (fun z => Nat.not_le.mpr hbl (hg1 _ z)) hw1.2.2 hi.2.2.1 dL_law_1082 ?_
  obtain ⟨r, σ1, μ1, h1, h2, hR1⟩ := SF.2.2.2.2.2.2.2.2.2.2.2.2.2.2.2.2.2.2.2.2.2.2.2.1 n σ μ (xs (x3 + 1).toNatClampNeg) (xs (x3 + 2).toNatClampNeg) hR
  refine y_I hw1 hw2 hdis hg1 (q_runV C1 hw1 hl.1 (As := [.int (xs (x3 + 1).toNatClampNeg), .int (xs (x3 + 2).toNatClampNeg)]) (rest := []) (m_X11_as l E1 (xs (x3 + 1).toNatClampNeg) (xs (x3 + 2).toNatClampNeg) σ r σ1 h1) yq_X11_as tC_0 rfl rfl kw_958 ⟨Nat.le_of_ble_eq_true rfl, Nat.le_of_ble_eq_true rfl⟩ rfl (Nat.le_of_ble_eq_true rfl) ⟨Nat.le_of_ble_eq_true rfl, Nat.le_of_ble_eq_true rfl⟩ dL_law_1083) (fun H hw1 hw2 => ?_)
  refine lv_aload_n hx hb dL_law_1086 rfl (lv_at hl 2 rfl) ?_
  refine lv_aload_n hx hb dL_law_1087 rfl (lv_at hl 0 rfl) ?_
  refine lv_iload_n hx hb dL_law_1088 rfl (lv_at hl 3 rfl) ?_
  refine lv_iconst (v := 1) hx hb dL_law_1089 (by decide) ?_
  refine lv_iadd hx hb dL_law_1090 ?_
  refine va_sld hx hb hX hbl (fun z => Nat.not_le.mpr hbl (hg1 _ z)) hw1.2.2 hi.2.1 dL_law_1091 ?_
  refine lv_aload_n hx hb dL_law_1092 rfl (lv_at hl 0 rfl) ?_
  refine lv_iload_n hx hb dL_law_1093 rfl (lv_at hl 3 rfl) ?_
  refine lv_iconst (v := 2) hx hb dL_law_1094 (by decide) ?_
  refine lv_iadd hx hb dL_law_1095 ?_
  refine va_sld hx hb hX hbl (fun z => Nat.not_le.mpr hbl (hg1 _ z)) hw1.2.2 hi.2.2.1 dL_law_1096 ?_
  refine y_I hw2 hw1 (fun q a b => hdis q b a) hg2 (q_runV C2 hw2 hl.1 (As := [.int (xs (x3 + 1).toNatClampNeg), .int (xs (x3 + 2).toNatClampNeg)]) (rest := [.int r]) (m_X12_as l E2 (xs (x3 + 1).toNatClampNeg) (xs (x3 + 2).toNatClampNeg) μ r μ1 h2) yq_X12_as tM_0 rfl rfl kw_1445 ⟨Nat.le_of_ble_eq_true rfl, Nat.le_of_ble_eq_true rfl⟩ rfl (Nat.le_of_ble_eq_true rfl) ⟨Nat.le_of_ble_eq_true rfl, Nat.le_of_ble_eq_true rfl⟩ dL_law_1097) (fun H hw2 hw1 => ?_)
  refine lv_icmp_eq (tgt := 1154) hx hb dL_law_1100 (by decide) (fun _ => ?_) (fun q => absurd rfl q)
  exact hk σ1 μ1 H ls hR1 hw1 hw2 hl
set_option maxHeartbeats 4000000 in
set_option maxRecDepth 100000 in
theorem lc_24 {Rel : Nat → Mem → Mem → Prop} (SF : LawSteps Rel) {p : Program} {l : Launch} {e : Env} {s : State} {m : MethodId} {below : List Frame} {meth : Method} {c : Code} {E1 E2 : EV} {b L : Nat} {xs : Nat → Int32} (X : Lx E1 E2 p s m meth c b L xs) {n : Nat} {σ μ : Mem} {x3 : Int32} (hi : vp_in x3 L ∧ vp_in (x3 + 1) L ∧ vp_in (x3 + 2) L ∧ vp_in (x3 + 3) L ∧ vp_in (x3 + 4) L ∧ vp_in (x3 + 5) L ∧ vp_in (x3 + 6) L) {H : Heap} {ls : Array Slot} (hR : Rel (n + 1) σ μ) (hw1 : Wd TC E1 σ s H []) (hw2 : Wd TM E2 μ s H []) (hl : lv_has ls 4 [(0, .ref b), (1, .ref (E1.2.1 0)), (2, .ref (E2.2.1 0)), (3, .int x3)])
    (hk : ∀ (σ μ : Mem) (H : Heap) (ls : Array Slot), Rel n σ μ → Wd TC E1 σ s H [] → Wd TM E2 μ s H [] → lv_has ls 4 [(0, .ref b), (1, .ref (E1.2.1 0)), (2, .ref (E2.2.1 0)), (3, .int x3)] → W p l e room_1 s m #[Value.ref b] below meth c H [] 99 155119 (lw_Z below #[Value.ref b] s) (F0 m 1154 ls [])) : W p l e room_1 s m #[Value.ref b] below meth c H [] 99 155119 (lw_Z below #[Value.ref b] s) (F0 m 1105 ls []) := by
  obtain ⟨C1, C2, hX, hbl, hdis, hg1, hg2⟩ := X
  have hx := C1.1
  have hb := C1.2.1
  have hown := C1.2.2.2.1
  have hts := C1.2.2.2.2.1
  refine lv_aload_n hx hb dL_law_1105 rfl (lv_at hl 1 rfl) ?_
  obtain ⟨r, σ1, μ1, h1, h2, hR1⟩ := SF.2.2.2.2.2.2.2.2.2.2.2.2.2.2.2.2.2.2.2.2.2.2.2.2.1 n σ μ  hR
  refine y_I hw1 hw2 hdis hg1 (q_runV C1 hw1 hl.1 (As := []) (rest := []) (m_X11_image l E1  σ r σ1 h1) yq_X11_image tC_0 rfl rfl kw_966 ⟨Nat.le_of_ble_eq_true rfl, Nat.le_of_ble_eq_true rfl⟩ rfl (Nat.le_of_ble_eq_true rfl) ⟨Nat.le_of_ble_eq_true rfl, Nat.le_of_ble_eq_true rfl⟩ dL_law_1106) (fun H hw1 hw2 => ?_)
  refine lv_aload_n hx hb dL_law_1109 rfl (lv_at hl 2 rfl) ?_
  refine y_I hw2 hw1 (fun q a b => hdis q b a) hg2 (q_runV C2 hw2 hl.1 (As := []) (rest := [.int r]) (m_X12_image l E2  μ r μ1 h2) yq_X12_image tM_0 rfl rfl kw_1449 ⟨Nat.le_of_ble_eq_true rfl, Nat.le_of_ble_eq_true rfl⟩ rfl (Nat.le_of_ble_eq_true rfl) ⟨Nat.le_of_ble_eq_true rfl, Nat.le_of_ble_eq_true rfl⟩ dL_law_1110) (fun H hw2 hw1 => ?_)
  refine lv_icmp_eq (tgt := 1154) hx hb dL_law_1113 (by decide) (fun _ => ?_) (fun q => absurd rfl q)
  exact hk σ1 μ1 H ls hR1 hw1 hw2 hl
set_option maxHeartbeats 4000000 in
set_option maxRecDepth 100000 in
theorem lc_25 {Rel : Nat → Mem → Mem → Prop} (SF : LawSteps Rel) {p : Program} {l : Launch} {e : Env} {s : State} {m : MethodId} {below : List Frame} {meth : Method} {c : Code} {E1 E2 : EV} {b L : Nat} {xs : Nat → Int32} (X : Lx E1 E2 p s m meth c b L xs) {n : Nat} {σ μ : Mem} {x3 : Int32} (hi : vp_in x3 L ∧ vp_in (x3 + 1) L ∧ vp_in (x3 + 2) L ∧ vp_in (x3 + 3) L ∧ vp_in (x3 + 4) L ∧ vp_in (x3 + 5) L ∧ vp_in (x3 + 6) L) {H : Heap} {ls : Array Slot} (hR : Rel (n + 1) σ μ) (hw1 : Wd TC E1 σ s H []) (hw2 : Wd TM E2 μ s H []) (hl : lv_has ls 4 [(0, .ref b), (1, .ref (E1.2.1 0)), (2, .ref (E2.2.1 0)), (3, .int x3)])
    (hk : ∀ (σ μ : Mem) (H : Heap) (ls : Array Slot), Rel n σ μ → Wd TC E1 σ s H [] → Wd TM E2 μ s H [] → lv_has ls 4 [(0, .ref b), (1, .ref (E1.2.1 0)), (2, .ref (E2.2.1 0)), (3, .int x3)] → W p l e room_1 s m #[Value.ref b] below meth c H [] 99 155119 (lw_Z below #[Value.ref b] s) (F0 m 1154 ls [])) : W p l e room_1 s m #[Value.ref b] below meth c H [] 99 155119 (lw_Z below #[Value.ref b] s) (F0 m 1118 ls []) := by
  obtain ⟨C1, C2, hX, hbl, hdis, hg1, hg2⟩ := X
  have hx := C1.1
  have hb := C1.2.1
  have hown := C1.2.2.2.1
  have hts := C1.2.2.2.2.1
  refine lv_aload_n hx hb dL_law_1118 rfl (lv_at hl 1 rfl) ?_
  obtain ⟨r, σ1, μ1, h1, h2, hR1⟩ := SF.2.2.2.2.2.2.2.2.2.2.2.2.2.2.2.2.2.2.2.2.2.2.2.2.2.1 n σ μ  hR
  refine y_I hw1 hw2 hdis hg1 (q_runV C1 hw1 hl.1 (As := []) (rest := []) (m_X11_undo l E1  σ r σ1 h1) yq_X11_undo tC_0 rfl rfl kw_1005 ⟨Nat.le_of_ble_eq_true rfl, Nat.le_of_ble_eq_true rfl⟩ rfl (Nat.le_of_ble_eq_true rfl) ⟨Nat.le_of_ble_eq_true rfl, Nat.le_of_ble_eq_true rfl⟩ dL_law_1119) (fun H hw1 hw2 => ?_)
  refine lv_aload_n hx hb dL_law_1122 rfl (lv_at hl 2 rfl) ?_
  refine y_I hw2 hw1 (fun q a b => hdis q b a) hg2 (q_runV C2 hw2 hl.1 (As := []) (rest := [.int r]) (m_X12_undo l E2  μ r μ1 h2) yq_X12_undo tM_0 rfl rfl kw_1453 ⟨Nat.le_of_ble_eq_true rfl, Nat.le_of_ble_eq_true rfl⟩ rfl (Nat.le_of_ble_eq_true rfl) ⟨Nat.le_of_ble_eq_true rfl, Nat.le_of_ble_eq_true rfl⟩ dL_law_1123) (fun H hw2 hw1 => ?_)
  refine lv_icmp_eq (tgt := 1154) hx hb dL_law_1126 (by decide) (fun _ => ?_) (fun q => absurd rfl q)
  exact hk σ1 μ1 H ls hR1 hw1 hw2 hl
set_option maxHeartbeats 4000000 in
set_option maxRecDepth 100000 in
theorem lc_26 {Rel : Nat → Mem → Mem → Prop} (SF : LawSteps Rel) {p : Program} {l : Launch} {e : Env} {s : State} {m : MethodId} {below : List Frame} {meth : Method} {c : Code} {E1 E2 : EV} {b L : Nat} {xs : Nat → Int32} (X : Lx E1 E2 p s m meth c b L xs) {n : Nat} {σ μ : Mem} {x3 : Int32} (hi : vp_in x3 L ∧ vp_in (x3 + 1) L ∧ vp_in (x3 + 2) L ∧ vp_in (x3 + 3) L ∧ vp_in (x3 + 4) L ∧ vp_in (x3 + 5) L ∧ vp_in (x3 + 6) L) {H : Heap} {ls : Array Slot} (hR : Rel (n + 1) σ μ) (hw1 : Wd TC E1 σ s H []) (hw2 : Wd TM E2 μ s H []) (hl : lv_has ls 4 [(0, .ref b), (1, .ref (E1.2.1 0)), (2, .ref (E2.2.1 0)), (3, .int x3)])
    (hk : ∀ (σ μ : Mem) (H : Heap) (ls : Array Slot), Rel n σ μ → Wd TC E1 σ s H [] → Wd TM E2 μ s H [] → lv_has ls 4 [(0, .ref b), (1, .ref (E1.2.1 0)), (2, .ref (E2.2.1 0)), (3, .int x3)] → W p l e room_1 s m #[Value.ref b] below meth c H [] 99 155119 (lw_Z below #[Value.ref b] s) (F0 m 1154 ls [])) : W p l e room_1 s m #[Value.ref b] below meth c H [] 99 155119 (lw_Z below #[Value.ref b] s) (F0 m 1131 ls []) := by
  obtain ⟨C1, C2, hX, hbl, hdis, hg1, hg2⟩ := X
  have hx := C1.1
  have hb := C1.2.1
  have hown := C1.2.2.2.1
  have hts := C1.2.2.2.2.1
  refine lv_aload_n hx hb dL_law_1131 rfl (lv_at hl 1 rfl) ?_
  refine lv_aload_n hx hb dL_law_1132 rfl (lv_at hl 0 rfl) ?_
  refine lv_iload_n hx hb dL_law_1133 rfl (lv_at hl 3 rfl) ?_
  refine lv_iconst (v := 1) hx hb dL_law_1134 (by decide) ?_
  refine lv_iadd hx hb dL_law_1135 ?_
  refine va_sld hx hb hX hbl (fun z => Nat.not_le.mpr hbl (hg1 _ z)) hw1.2.2 hi.2.1 dL_law_1136 ?_
  obtain ⟨r, σ1, μ1, h1, h2, hR1⟩ := SF.2.2.2.2.2.2.2.2.2.2.2.2.2.2.2.2.2.2.2.2.2.2.2.2.2.2 n σ μ (xs (x3 + 1).toNatClampNeg) hR
  refine y_I hw1 hw2 hdis hg1 (q_runV C1 hw1 hl.1 (As := [.int (xs (x3 + 1).toNatClampNeg)]) (rest := []) (m_X11_count l E1 (xs (x3 + 1).toNatClampNeg) σ r σ1 h1) yq_X11_count tC_0 rfl rfl kw_1009 ⟨Nat.le_of_ble_eq_true rfl, Nat.le_of_ble_eq_true rfl⟩ rfl (Nat.le_of_ble_eq_true rfl) ⟨Nat.le_of_ble_eq_true rfl, Nat.le_of_ble_eq_true rfl⟩ dL_law_1137) (fun H hw1 hw2 => ?_)
  refine lv_aload_n hx hb dL_law_1140 rfl (lv_at hl 2 rfl) ?_
  refine lv_aload_n hx hb dL_law_1141 rfl (lv_at hl 0 rfl) ?_
  refine lv_iload_n hx hb dL_law_1142 rfl (lv_at hl 3 rfl) ?_
  refine lv_iconst (v := 1) hx hb dL_law_1143 (by decide) ?_
  refine lv_iadd hx hb dL_law_1144 ?_
  refine va_sld hx hb hX hbl (fun z => Nat.not_le.mpr hbl (hg1 _ z)) hw1.2.2 hi.2.1 dL_law_1145 ?_
  refine y_I hw2 hw1 (fun q a b => hdis q b a) hg2 (q_runV C2 hw2 hl.1 (As := [.int (xs (x3 + 1).toNatClampNeg)]) (rest := [.int r]) (m_X12_count l E2 (xs (x3 + 1).toNatClampNeg) μ r μ1 h2) yq_X12_count tM_0 rfl rfl kw_1457 ⟨Nat.le_of_ble_eq_true rfl, Nat.le_of_ble_eq_true rfl⟩ rfl (Nat.le_of_ble_eq_true rfl) ⟨Nat.le_of_ble_eq_true rfl, Nat.le_of_ble_eq_true rfl⟩ dL_law_1146) (fun H hw2 hw1 => ?_)
  refine lv_icmp_eq (tgt := 1154) hx hb dL_law_1149 (by decide) (fun _ => ?_) (fun q => absurd rfl q)
  exact hk σ1 μ1 H ls hR1 hw1 hw2 hl
