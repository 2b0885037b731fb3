/-! PURE WORDS: guards, names, binds, loops -/
def gd {α : Type} (b : Bool) (k : Option α) : Option α := if b = true then k else none
def lt {α β : Type} (a : α) (k : α → β) : β := k a
def bd {ρ α : Type} (x : Option (ρ × Mem)) (k : ρ → Mem → Option α) : Option α := match x with
  | none => none
  | some q => k q.1 q.2
def bv {α : Type} (x : Option Mem) (k : Mem → Option α) : Option α := match x with
  | none => none
  | some q => k q
theorem gd_at {α : Type} {b : Bool} {k : Option α} {x : α} (h : gd b k = some x) : b = true ∧ k = some x := by
  unfold gd at h
  split at h
  · rename_i hb
    exact ⟨hb, h⟩
  · cases h
theorem lt_at {α β : Type} {a : α} {k : α → β} {x : β} (h : lt a k = x) : ∃ b, b = a ∧ k b = x := ⟨a, rfl, h⟩
theorem bd_at {ρ α : Type} {x : Option (ρ × Mem)} {k : ρ → Mem → Option α} {z : α} (h : bd x k = some z) : ∃ r τ, x = some (r, τ) ∧ k r τ = some z := by
  cases x with
  | none => cases h
  | some q => exact ⟨q.1, q.2, rfl, h⟩
theorem bv_at {α : Type} {x : Option Mem} {k : Mem → Option α} {z : α} (h : bv x k = some z) : ∃ τ, x = some τ ∧ k τ = some z := by
  cases x with
  | none => cases h
  | some q => exact ⟨q, rfl, h⟩
theorem it_at {c : Prop} [Decidable c] {α : Type} {a b : α} {x : α} (h : (if c then a else b) = x) (hc : c) : a = x := (if_pos hc).symm.trans h
theorem ie_at {c : Prop} [Decidable c] {α : Type} {a b : α} {x : α} (h : (if c then a else b) = x) (hc : ¬ c) : b = x := (if_neg hc).symm.trans h
theorem ret_at {ρ : Type} {a r : ρ} {b t : Mem} (h : some (a, b) = some (r, t)) : a = r ∧ b = t := by
  have h := Option.some.inj h
  exact ⟨congrArg Prod.fst h, congrArg Prod.snd h⟩
def ib (i : Int32) (n : Nat) : Bool := decide (¬ (i < 0 ∨ n ≤ i.toNatClampNeg))
theorem ib_at {i : Int32} {n : Nat} (h : ib i n = true) : vp_in i n := by
  have h2 : ¬ (i < 0 ∨ n ≤ i.toNatClampNeg) := of_decide_eq_true h
  exact h2
/-- a mill's cell, told by a number -/
def im (x : Int32) : Bool := decide (x = nI 48 ∨ x = nI 55 ∨ x = nI 62 ∨ x = nI 69 ∨ x = nI 76)
theorem im_at {x : Int32} (h : im x = true) : MO x.toNatClampNeg ∧ nI x.toNatClampNeg = x := by
  have h := of_decide_eq_true h
  rcases h with h | h | h | h | h
  · exact ⟨⟨0, by decide, by rw [h]; decide +kernel⟩, by rw [h]; decide +kernel⟩
  · exact ⟨⟨1, by decide, by rw [h]; decide +kernel⟩, by rw [h]; decide +kernel⟩
  · exact ⟨⟨2, by decide, by rw [h]; decide +kernel⟩, by rw [h]; decide +kernel⟩
  · exact ⟨⟨3, by decide, by rw [h]; decide +kernel⟩, by rw [h]; decide +kernel⟩
  · exact ⟨⟨4, by decide, by rw [h]; decide +kernel⟩, by rw [h]; decide +kernel⟩
theorem MO.pos {o : Nat} (h : MO o) : 0 < o ∧ o < 2 ^ 31 := by
  obtain ⟨k, hk, rfl⟩ := h
  unfold mo
  omega
theorem MO.of_ib {i : Int32} (h : ib i 5 = true) : MO (mo i.toNatClampNeg) := by
  have h := ib_at h
  exact ⟨i.toNatClampNeg, Nat.not_le.mp fun q => h (Or.inr q), rfl⟩
/-- loops, and methods that call themselves: so many rounds at most -/
def FU : Nat := 6000
def fx1 {A ρ : Type} (F : (A → Option ρ) → A → Option ρ) : Nat → A → Option ρ | 0 => fun _ => none | n + 1 => F (fx1 F n)
def fx2 {A B ρ : Type} (F : (A → B → Option ρ) → A → B → Option ρ) : Nat → A → B → Option ρ | 0 => fun _ _ => none | n + 1 => F (fx2 F n)
def fx3 {A B C ρ : Type} (F : (A → B → C → Option ρ) → A → B → C → Option ρ) : Nat → A → B → C → Option ρ | 0 => fun _ _ _ => none | n + 1 => F (fx3 F n)
def fx4 {A B C D ρ : Type} (F : (A → B → C → D → Option ρ) → A → B → C → D → Option ρ) : Nat → A → B → C → D → Option ρ | 0 => fun _ _ _ _ => none | n + 1 => F (fx4 F n)
def fx5 {A B C D E ρ : Type} (F : (A → B → C → D → E → Option ρ) → A → B → C → D → E → Option ρ) : Nat → A → B → C → D → E → Option ρ | 0 => fun _ _ _ _ _ => none | n + 1 => F (fx5 F n)
def fx6 {A B C D E G ρ : Type} (F : (A → B → C → D → E → G → Option ρ) → A → B → C → D → E → G → Option ρ) : Nat → A → B → C → D → E → G → Option ρ | 0 => fun _ _ _ _ _ _ => none | n + 1 => F (fx6 F n)
def fx7 {A B C D E G I ρ : Type} (F : (A → B → C → D → E → G → I → Option ρ) → A → B → C → D → E → G → I → Option ρ) : Nat → A → B → C → D → E → G → I → Option ρ | 0 => fun _ _ _ _ _ _ _ => none | n + 1 => F (fx7 F n)
def fx8 {A B C D E G I J ρ : Type} (F : (A → B → C → D → E → G → I → J → Option ρ) → A → B → C → D → E → G → I → J → Option ρ) : Nat → A → B → C → D → E → G → I → J → Option ρ | 0 => fun _ _ _ _ _ _ _ _ => none | n + 1 => F (fx8 F n)
def fx9 {A B C D E G I J K ρ : Type} (F : (A → B → C → D → E → G → I → J → K → Option ρ) → A → B → C → D → E → G → I → J → K → Option ρ) : Nat → A → B → C → D → E → G → I → J → K → Option ρ | 0 => fun _ _ _ _ _ _ _ _ _ => none | n + 1 => F (fx9 F n)
def fx10 {A B C D E G I J K L ρ : Type} (F : (A → B → C → D → E → G → I → J → K → L → Option ρ) → A → B → C → D → E → G → I → J → K → L → Option ρ) : Nat → A → B → C → D → E → G → I → J → K → L → Option ρ | 0 => fun _ _ _ _ _ _ _ _ _ _ => none | n + 1 => F (fx10 F n)
def fx11 {A B C D E G I J K L M ρ : Type} (F : (A → B → C → D → E → G → I → J → K → L → M → Option ρ) → A → B → C → D → E → G → I → J → K → L → M → Option ρ) : Nat → A → B → C → D → E → G → I → J → K → L → M → Option ρ | 0 => fun _ _ _ _ _ _ _ _ _ _ _ => none | n + 1 => F (fx11 F n)
def fx12 {A B C D E G I J K L M N ρ : Type} (F : (A → B → C → D → E → G → I → J → K → L → M → N → Option ρ) → A → B → C → D → E → G → I → J → K → L → M → N → Option ρ) : Nat → A → B → C → D → E → G → I → J → K → L → M → N → Option ρ | 0 => fun _ _ _ _ _ _ _ _ _ _ _ _ => none | n + 1 => F (fx12 F n)
def fx13 {A B C D E G I J K L M N O ρ : Type} (F : (A → B → C → D → E → G → I → J → K → L → M → N → O → Option ρ) → A → B → C → D → E → G → I → J → K → L → M → N → O → Option ρ) : Nat → A → B → C → D → E → G → I → J → K → L → M → N → O → Option ρ | 0 => fun _ _ _ _ _ _ _ _ _ _ _ _ _ => none | n + 1 => F (fx13 F n)
def fx14 {A B C D E G I J K L M N O P ρ : Type} (F : (A → B → C → D → E → G → I → J → K → L → M → N → O → P → Option ρ) → A → B → C → D → E → G → I → J → K → L → M → N → O → P → Option ρ) : Nat → A → B → C → D → E → G → I → J → K → L → M → N → O → P → Option ρ | 0 => fun _ _ _ _ _ _ _ _ _ _ _ _ _ _ => none | n + 1 => F (fx14 F n)
theorem rfn_nI {E : EV} {c : Nat} (h0 : 0 < c) (h : c < 2 ^ 31) : rfn E (nI c) = .ref (E.2.1 c) := by
  unfold rfn
  rw [if_neg (nI_ne0 h0 h), nI_clamp h]
theorem rfn_im {E : EV} {x : Int32} (h : im x = true) : rfn E x = .ref (E.2.1 x.toNatClampNeg) := by
  obtain ⟨h1, h2⟩ := im_at h
  have h3 := rfn_nI (E := E) h1.pos.1 h1.pos.2
  rw [h2] at h3
  exact h3
section ROWS
variable {p : Program} {l : Launch} {e : Env} {R : Room} {s : State} {m : MethodId} {args : Array Value} {below : List Frame} {meth : Method} {c : Code} {H : Heap} {locs : List Loc} {cells slots : Nat} {Q : State → Prop}
variable {pc : Nat} {ls : Array Slot} {rest : List Value} {T : List (Nat × Nat)} {E : EV} {σ τ : Mem} {cc : ByteArray} {nL : Nat} {ret : Option FieldType} {own : String}
theorem q_top {x y : Int32} (ex : y = x) (k : W p l e R s m args below meth c H locs cells slots Q (F0 m pc ls (.int y :: rest))) : W p l e R s m args below meth c H locs cells slots Q (F0 m pc ls (.int x :: rest)) := ex ▸ k
theorem q_topl {x y : Int64} (ex : y = x) (k : W p l e R s m args below meth c H locs cells slots Q (F0 m pc ls (.long y :: rest))) : W p l e R s m args below meth c H locs cells slots Q (F0 m pc ls (.long x :: rest)) := ex ▸ k
theorem q_get (C : Cx E p s m args meth c cc nL ret own) (hw : Wd T E σ s H locs) {index : Nat} {ref : String} {c0 ci N k : Nat} {Cn : String} {Tf : u_T} {kn : Nat × Nat} {fs : List Value} {v : Value} (hT : T[c0]? = some kn) (hcl : cel E c0 kn (σ.1 c0) (σ.2 c0) = .inr (ci, fs)) (hc : vwCl[ci]? = some (Cn, Tf, N)) (hin : ∀ w ∈ u_ws Cn Tf N, w ∈ lw_gd) (hk : k < N)
    (hlink : Cond.fieldLink own index ref (Tf k).2.1 (Tf k).2.2.1 ∈ lw_gd) (hsame : ref = (Tf k).1) (hv : fs[k]? = some v) (hdg : decode cc pc = .ok (.getfield index, 3))
    (kk : W p l e R s m args below meth c H locs cells slots Q (F0 m (pc + 3) ls (v :: rest))) : W p l e R s m args below meth c H locs cells slots Q (F0 m pc ls (.ref (E.2.1 c0) :: rest)) := by
  obtain ⟨hx, hb, hml, hown, hts, hK, hSt, hlk, hr⟩ := C
  subst hsame
  exact va_get (D := E.1) (v := v) hx hb hts hin hown hK hw.1 c0 (by rw [wd_at E σ hT, hcl]) hc k hk (hts _ hlink) (fun _ h => h) hv hdg kk
theorem q_put (C : Cx E p s m args meth c cc nL ret own) (hw : Wd T E σ s H locs) {index : Nat} {ref : String} {c0 ci N k : Nat} {Cn : String} {Tf : u_T} {kn : Nat × Nat} {fs : List Value} {v : Value} {ty : FieldType} (hT : T[c0]? = some kn) (hcl : cel E c0 kn (σ.1 c0) (σ.2 c0) = .inr (ci, fs)) (hc : vwCl[ci]? = some (Cn, Tf, N)) (hin : ∀ w ∈ u_ws Cn Tf N, w ∈ lw_gd)
    (ty0 : Nat → FieldType) (hty : ∀ k, k < N → parseFieldDescriptor (Tf k).2.2.1 = some (ty0 k)) (hnm : ∀ a, a < N → ∀ b, b < N → a ≠ b → (Tf a).2.1 ≠ (Tf b).2.1) (hk : k < N)
    (hlink : Cond.fieldLink own index ref (Tf k).2.1 (Tf k).2.2.1 ∈ lw_gd) (hsame : ref = (Tf k).1) (hfin : (Tf k).2.2.2 = false) (hd : parseFieldDescriptor (Tf k).2.2.1 = some ty) (hn : narrow ty v = v) (hfit : fits ty v = true) (hl : k < fs.length)
    (hτ : cel E c0 kn (τ.1 c0) (τ.2 c0) = .inr (ci, fs.set k v)) (ho : ∀ c', c' ≠ c0 → τ.1 c' = σ.1 c' ∧ τ.2 c' = σ.2 c') (hdg : decode cc pc = .ok (.putfield index, 3))
    (kk : ∀ (H1 : Heap) (locs1 : List Loc), Wd T E τ s H1 locs1 → W p l e R s m args below meth c H1 locs1 cells slots Q (F0 m (pc + 3) ls rest)) : W p l e R s m args below meth c H locs cells slots Q (F0 m pc ls (v :: .ref (E.2.1 c0) :: rest)) := by
  obtain ⟨hx, hb, hml, hown, hts, hK, hSt, hlk, hr⟩ := C
  subst hsame
  obtain ⟨hP, hD, hS⟩ := hw
  refine va_put (D := E.1) (v := v) (ty := ty) hx hb hts hin ty0 hty hnm hown hK hP hD hS c0 (by rw [wd_at E σ hT, hcl]) hc k hk (hts _ hlink) (fun _ h => h) hfin hd hn hfit hl hdg (fun H1 locs1 hP1 hD1 hS1 => ?_)
  rw [wd_set E σ τ hT _ hτ.symm ho] at hP1 hD1
  exact kk H1 locs1 ⟨hP1, hD1, hS1⟩
theorem q_iald (C : Cx E p s m args meth c cc nL ret own) (hw : Wd T E σ s H locs) {c0 n : Nat} (hT : T[c0]? = some (20, n)) {i : Int32} (hin : ib i n = true) (hdg : decode cc pc = .ok (.iaload, 1))
    (kk : W p l e R s m args below meth c H locs cells slots Q (F0 m (pc + 1) ls (.int (gI σ c0 i.toNatClampNeg) :: rest))) : W p l e R s m args below meth c H locs cells slots Q (F0 m pc ls (.int i :: .ref (E.2.1 c0) :: rest)) := by
  obtain ⟨hx, hb, hml, hown, hts, hK, hSt, hlk, hr⟩ := C
  exact va_iald hx hb hK hw.1 c0 0 (wd_at E σ hT) rfl (ib_at hin) hdg kk
theorem q_bald (C : Cx E p s m args meth c cc nL ret own) (hw : Wd T E σ s H locs) {c0 n : Nat} (hT : T[c0]? = some (21, n)) {i : Int32} (hin : ib i n = true) (hdg : decode cc pc = .ok (.baload, 1))
    (kk : W p l e R s m args below meth c H locs cells slots Q (F0 m (pc + 1) ls (.int (gI σ c0 i.toNatClampNeg) :: rest))) : W p l e R s m args below meth c H locs cells slots Q (F0 m pc ls (.int i :: .ref (E.2.1 c0) :: rest)) := by
  obtain ⟨hx, hb, hml, hown, hts, hK, hSt, hlk, hr⟩ := C
  exact va_bald hx hb hK hw.1 c0 1 (wd_at E σ hT) rfl (ib_at hin) hdg kk
theorem q_zald (C : Cx E p s m args meth c cc nL ret own) (hw : Wd T E σ s H locs) {c0 n : Nat} (hT : T[c0]? = some (23, n)) {i : Int32} (hin : ib i n = true) (hdg : decode cc pc = .ok (.baload, 1))
    (kk : W p l e R s m args below meth c H locs cells slots Q (F0 m (pc + 1) ls (.int (gI σ c0 i.toNatClampNeg) :: rest))) : W p l e R s m args below meth c H locs cells slots Q (F0 m pc ls (.int i :: .ref (E.2.1 c0) :: rest)) := by
  obtain ⟨hx, hb, hml, hown, hts, hK, hSt, hlk, hr⟩ := C
  exact va_zald hx hb hK hw.1 c0 3 (wd_at E σ hT) rfl (ib_at hin) hdg kk
theorem q_lald (C : Cx E p s m args meth c cc nL ret own) (hw : Wd T E σ s H locs) {c0 n : Nat} (hT : T[c0]? = some (22, n)) {i : Int32} (hin : ib i n = true) (hdg : decode cc pc = .ok (.laload, 1))
    (kk : W p l e R s m args below meth c H locs cells slots Q (F0 m (pc + 1) ls (.long (gL σ c0 i.toNatClampNeg) :: rest))) : W p l e R s m args below meth c H locs cells slots Q (F0 m pc ls (.int i :: .ref (E.2.1 c0) :: rest)) := by
  obtain ⟨hx, hb, hml, hown, hts, hK, hSt, hlk, hr⟩ := C
  exact va_lald hx hb hK hw.1 c0 2 (wd_at E σ hT) rfl (ib_at hin) hdg kk
/-- the mills' array -/
theorem q_aald (C : Cx E p s m args meth c cc nL ret own) (hw : Wd TC E σ s H locs) {i : Int32} (hin : ib i 5 = true) (hdg : decode cc pc = .ok (.aaload, 1))
    (kk : W p l e R s m args below meth c H locs cells slots Q (F0 m (pc + 1) ls (.ref (E.2.1 (mo i.toNatClampNeg)) :: rest))) : W p l e R s m args below meth c H locs cells slots Q (F0 m pc ls (.int i :: .ref (E.2.1 1) :: rest)) := by
  obtain ⟨hx, hb, hml, hown, hts, hK, hSt, hlk, hr⟩ := C
  exact va_aldq hx hb hK hw.1 1 4 (wd_at E σ (kn := (24, 5)) rfl) rfl (ib_at hin) hdg kk
theorem sI_off (σ : Mem) (c k : Nat) (v : Int32) : ∀ c', c' ≠ c → (sI σ c k v).1 c' = σ.1 c' ∧ (sI σ c k v).2 c' = σ.2 c' := fun c' h => ⟨if_neg h, rfl⟩
theorem sL_off (σ : Mem) (c k : Nat) (v : Int64) : ∀ c', c' ≠ c → (sL σ c k v).1 c' = σ.1 c' ∧ (sL σ c k v).2 c' = σ.2 c' := fun c' h => ⟨rfl, if_neg h⟩
theorem cpI_off (σ : Mem) (a b n : Nat) : ∀ c', c' ≠ b → (cpI σ a b n).1 c' = σ.1 c' ∧ (cpI σ a b n).2 c' = σ.2 c' := fun c' h => ⟨if_neg h, rfl⟩
theorem q_iast (C : Cx E p s m args meth c cc nL ret own) (hw : Wd T E σ s H locs) {c0 n : Nat} (hT : T[c0]? = some (20, n)) {i x : Int32} (hin : ib i n = true) (eτ : τ = sI σ c0 i.toNatClampNeg x) (hdg : decode cc pc = .ok (.iastore, 1))
    (kk : ∀ (H1 : Heap) (locs1 : List Loc), Wd T E τ s H1 locs1 → W p l e R s m args below meth c H1 locs1 cells slots Q (F0 m (pc + 1) ls rest)) : W p l e R s m args below meth c H locs cells slots Q (F0 m pc ls (.int x :: .int i :: .ref (E.2.1 c0) :: rest)) := by
  obtain ⟨hx, hb, hml, hown, hts, hK, hSt, hlk, hr⟩ := C
  obtain ⟨hP, hD, hS⟩ := hw
  subst eτ
  refine va_iast hx hb hK hP hD hS c0 0 (wd_at E σ hT) rfl (ib_at hin) hdg (fun H1 locs1 hP1 hD1 hS1 => ?_)
  rw [wd_set E σ (sI σ c0 i.toNatClampNeg x) hT _ (by rw [sI_row]; rfl) (sI_off _ _ _ _)] at hP1 hD1
  exact kk H1 locs1 ⟨hP1, hD1, hS1⟩
theorem q_bast (C : Cx E p s m args meth c cc nL ret own) (hw : Wd T E σ s H locs) {c0 n : Nat} (hT : T[c0]? = some (21, n)) {i x : Int32} (hin : ib i n = true) (eτ : τ = sI σ c0 i.toNatClampNeg x.toInt8.toInt32) (hdg : decode cc pc = .ok (.bastore, 1))
    (kk : ∀ (H1 : Heap) (locs1 : List Loc), Wd T E τ s H1 locs1 → W p l e R s m args below meth c H1 locs1 cells slots Q (F0 m (pc + 1) ls rest)) : W p l e R s m args below meth c H locs cells slots Q (F0 m pc ls (.int x :: .int i :: .ref (E.2.1 c0) :: rest)) := by
  obtain ⟨hx, hb, hml, hown, hts, hK, hSt, hlk, hr⟩ := C
  obtain ⟨hP, hD, hS⟩ := hw
  subst eτ
  refine va_bast hx hb hK hP hD hS c0 1 (wd_at E σ hT) rfl (ib_at hin) hdg (fun H1 locs1 hP1 hD1 hS1 => ?_)
  rw [wd_set E σ (sI σ c0 i.toNatClampNeg x.toInt8.toInt32) hT _ (by rw [sI_row, vp_nar_byte]; rfl) (sI_off _ _ _ _)] at hP1 hD1
  exact kk H1 locs1 ⟨hP1, hD1, hS1⟩
/-- a truth: 0 or 1 -/
def iz (x : Int32) : Bool := decide (x = 0 ∨ x = 1)
theorem iz_nar {x : Int32} (h : iz x = true) : narrow .boolean (.int x) = .int x ∧ vp_nar .boolean x = x ∧ fits .boolean (.int x) = true := by
  rcases of_decide_eq_true h with h | h <;> subst h <;> exact ⟨by decide +kernel, by decide +kernel, by decide +kernel⟩
theorem q_zast (C : Cx E p s m args meth c cc nL ret own) (hw : Wd T E σ s H locs) {c0 n : Nat} (hT : T[c0]? = some (23, n)) {i x : Int32} (hin : ib i n = true) (hz : iz x = true) (eτ : τ = sI σ c0 i.toNatClampNeg x) (hdg : decode cc pc = .ok (.bastore, 1))
    (kk : ∀ (H1 : Heap) (locs1 : List Loc), Wd T E τ s H1 locs1 → W p l e R s m args below meth c H1 locs1 cells slots Q (F0 m (pc + 1) ls rest)) : W p l e R s m args below meth c H locs cells slots Q (F0 m pc ls (.int x :: .int i :: .ref (E.2.1 c0) :: rest)) := by
  obtain ⟨hx, hb, hml, hown, hts, hK, hSt, hlk, hr⟩ := C
  obtain ⟨hP, hD, hS⟩ := hw
  subst eτ
  refine va_zast hx hb hK hP hD hS c0 3 (wd_at E σ hT) rfl (ib_at hin) hdg (fun H1 locs1 hP1 hD1 hS1 => ?_)
  rw [wd_set E σ (sI σ c0 i.toNatClampNeg x) hT _ (by rw [sI_row, (iz_nar hz).2.1]; rfl) (sI_off _ _ _ _)] at hP1 hD1
  exact kk H1 locs1 ⟨hP1, hD1, hS1⟩
theorem q_last (C : Cx E p s m args meth c cc nL ret own) (hw : Wd T E σ s H locs) {c0 n : Nat} (hT : T[c0]? = some (22, n)) {i : Int32} {x : Int64} (hin : ib i n = true) (eτ : τ = sL σ c0 i.toNatClampNeg x) (hdg : decode cc pc = .ok (.lastore, 1))
    (kk : ∀ (H1 : Heap) (locs1 : List Loc), Wd T E τ s H1 locs1 → W p l e R s m args below meth c H1 locs1 cells slots Q (F0 m (pc + 1) ls rest)) : W p l e R s m args below meth c H locs cells slots Q (F0 m pc ls (.long x :: .int i :: .ref (E.2.1 c0) :: rest)) := by
  obtain ⟨hx, hb, hml, hown, hts, hK, hSt, hlk, hr⟩ := C
  obtain ⟨hP, hD, hS⟩ := hw
  subst eτ
  refine va_last hx hb hK hP hD hS c0 2 (wd_at E σ hT) rfl (ib_at hin) hdg (fun H1 locs1 hP1 hD1 hS1 => ?_)
  rw [wd_set E σ (sL σ c0 i.toNatClampNeg x) hT _ (by rw [sL_row]; rfl) (sL_off _ _ _ _)] at hP1 hD1
  exact kk H1 locs1 ⟨hP1, hD1, hS1⟩
theorem q_alen (C : Cx E p s m args meth c cc nL ret own) (hw : Wd T E σ s H locs) {c0 n : Nat} (hT : T[c0]? = some (20, n)) {v : Int32} (hv : nI n = v) (hdg : decode cc pc = .ok (.arraylength, 1))
    (kk : W p l e R s m args below meth c H locs cells slots Q (F0 m (pc + 1) ls (.int v :: rest))) : W p l e R s m args below meth c H locs cells slots Q (F0 m pc ls (.ref (E.2.1 c0) :: rest)) := by
  obtain ⟨hx, hb, hml, hown, hts, hK, hSt, hlk, hr⟩ := C
  exact va_alen hx hb hK hw.1 c0 0 (wd_at E σ hT) (ty := .int) rfl hv hdg kk
/-- the ends -/
theorem q_iret (C : Cx E p s m args meth c cc nL (some .int) own) {r : Int32} (hw : Wd T E τ s H locs) (hdg : decode cc pc = .ok (.ireturn, 1)) :
    W p l e R s m args below meth c H locs 0 0 (MQ below (QI T E r τ) args s 0 0 E.2.2.1) (F0 m pc ls [.int r]) := by
  obtain ⟨hx, hb, hml, hown, hts, hK, hSt, hlk, hr⟩ := C
  exact W.iret (v := r) hx hb hr (fun t ht hW => ⟨⟨r, τ, rfl, ⟨rfl, rfl⟩, by unfold Po; rw [ht]; exact hw.1⟩, hw.2.2.F ht⟩) hw.2.2.2.2 hdg hlk
theorem q_zret (C : Cx E p s m args meth c cc nL (some .boolean) own) {r : Int32} (hz : iz r = true) (hw : Wd T E τ s H locs) (hdg : decode cc pc = .ok (.ireturn, 1)) :
    W p l e R s m args below meth c H locs 0 0 (MQ below (QI T E r τ) args s 0 0 E.2.2.1) (F0 m pc ls [.int r]) := by
  obtain ⟨hx, hb, hml, hown, hts, hK, hSt, hlk, hr⟩ := C
  exact W.zret (v := r) (ty := .boolean) hx hb hr (iz_nar hz).1 (fun t ht hW => ⟨⟨r, τ, rfl, ⟨rfl, rfl⟩, by unfold Po; rw [ht]; exact hw.1⟩, hw.2.2.F ht⟩) hw.2.2.2.2 hdg hlk
theorem q_lret (C : Cx E p s m args meth c cc nL (some .long) own) {r : Int64} (hw : Wd T E τ s H locs) (hdg : decode cc pc = .ok (.lreturn, 1)) :
    W p l e R s m args below meth c H locs 0 0 (MQ below (QL T E r τ) args s 0 0 E.2.2.1) (F0 m pc ls [.long r]) := by
  obtain ⟨hx, hb, hml, hown, hts, hK, hSt, hlk, hr⟩ := C
  exact W.lret (v := r) hx hb hr (fun t ht hW => ⟨⟨r, τ, rfl, ⟨rfl, rfl⟩, by unfold Po; rw [ht]; exact hw.1⟩, hw.2.2.F ht⟩) hw.2.2.2.2 hdg hlk
theorem q_vret (C : Cx E p s m args meth c cc nL none own) (hw : Wd T E τ s H locs) (hdg : decode cc pc = .ok (.return_, 1)) :
    W p l e R s m args below meth c H locs 0 0 (MQ below (QV T E τ) args s 0 0 E.2.2.1) (F0 m pc ls []) := by
  obtain ⟨hx, hb, hml, hown, hts, hK, hSt, hlk, hr⟩ := C
  exact W.vret hx hb hr (fun t ht hW => ⟨⟨τ, rfl, rfl, by unfold Po; rw [ht]; exact hw.1⟩, hw.2.2.F ht⟩) hw.2.2.2.2 hdg hlk
/-- what a callee's name must have: by the tables -/
def yV (y : MethodName) (cy : ByteArray) (nl : Nat) (rt : Option FieldType) (n : Nat) : Prop := (y.cls ≠ "java/lang/invoke/MethodHandle" ∧ y.cls ≠ "java/lang/invoke/VarHandle" ∧ (parseMethodDescriptor y.desc).map (fun d => d.parameters.length) = some n) ∧ Cond.code y cy nl rt ∈ lw_gd ∧ Cond.initialized y.cls ∈ lw_gd ∧ Cond.instanceMethod y ∈ lw_gd ∧ Cond.selects y.cls y y ∈ lw_gd
def yS (y : MethodName) (cy : ByteArray) (nl : Nat) (rt : Option FieldType) (n : Nat) : Prop := (y.cls ≠ "java/lang/invoke/MethodHandle" ∧ y.cls ≠ "java/lang/invoke/VarHandle" ∧ (parseMethodDescriptor y.desc).map (fun d => d.parameters.length) = some n) ∧ Cond.code y cy nl rt ∈ lw_gd ∧ Cond.initialized y.cls ∈ lw_gd ∧ Cond.static y ∈ lw_gd
theorem yV_in {y : MethodName} {cy : ByteArray} {nl n idx : Nat} {rt : Option FieldType} (h : yV y cy nl rt n) (hk : Cond.methodLink own idx y ∈ lw_gd) : GoodIn lw_gd (wsV own idx y.cls y (.code y cy nl rt :: lw_gd)) := by
  obtain ⟨-, h1, h2, h3, h4⟩ := h
  refine lw_goodIn (fun w hw => ?_)
  simp only [wsV, List.mem_append, List.mem_cons, List.not_mem_nil, or_false] at hw
  rcases hw with (rfl | rfl | rfl | rfl) | rfl | hw
  · exact hk
  · exact h3
  · exact h4
  · exact h2
  · exact h1
  · exact hw
theorem yS_in {y : MethodName} {cy : ByteArray} {nl n idx : Nat} {rt : Option FieldType} (h : yS y cy nl rt n) (hk : Cond.methodLink own idx y ∈ lw_gd) : GoodIn lw_gd (va_wsS own idx y (.code y cy nl rt :: lw_gd)) := by
  obtain ⟨-, h1, h2, h3⟩ := h
  refine lw_goodIn (fun w hw => ?_)
  simp only [va_wsS, List.mem_append, List.mem_cons, List.not_mem_nil, or_false] at hw
  rcases hw with (rfl | rfl | rfl) | rfl | hw
  · exact hk
  · exact h3
  · exact h2
  · exact h1
  · exact hw
/-- a call of a method on an object of the world, and of a static one: the run, whatever the answer -/
theorem q_runV (C : Cx E p s m args meth c cc nL ret own) (hw : Wd T E σ s H locs) (hz : ls.size = nL) {y : MethodName} {cy : ByteArray} {nl n idx fr lo : Nat} {rt : Option FieldType} {c0 ci : Nat} {kn : Nat × Nat} {fs As : List Value} {Tf : u_T} {N : Nat} {Qc : Array Value → State → Outcome → State → Prop}
    (hM : Met l y (.code y cy nl rt :: lw_gd) { frames := fr, cells := 0, slots := 0, locals := lo } (va_Pc (.ref (E.2.1 c0) :: As) (Pr T E σ)) Qc 0 0 E.2.2.1)
    (hy : yV y cy nl rt n) (hT : T[c0]? = some kn) (hcl : cel E c0 kn (σ.1 c0) (σ.2 c0) = .inr (ci, fs)) (hc : vwCl[ci]? = some (y.cls, Tf, N)) (hk : Cond.methodLink own idx y ∈ lw_gd) (hR : fr + 1 ≤ R.frames ∧ 8 + (nl + 11) + lo ≤ R.locals) (hn : As.length = n) (hrest : (rest.map fun v => v.category).sum ≤ 8) (hf : cells ≤ R.cells ∧ slots ≤ R.slots)
    (hdg : decode cc pc = .ok (.invokevirtual idx, 3)) : va_Run p l e R s m args below meth c H locs cells slots 0 0 (F0 m pc ls (As.reverse ++ .ref (E.2.1 c0) :: rest)) rest (Qc (Value.ref (E.2.1 c0) :: As).toArray) E.2.2.1 := by
  have hpr := fun (U : State) (hU : U.heap = H) (hW : s.WarmedH U.vm) => Pr.at C hw hU hW
  obtain ⟨hx, hb, hml, hown, hts, hK, hSt, hlk, hr⟩ := C
  refine va_runV (As := As) (rest := rest) (nL := nL) ⟨hx, hb, hml, hown, hts⟩ hM (cwV n hts (yV_in hy hk) rfl rfl rfl ⟨rfl, hy.1.1, hy.1.2.1, hy.1.2.2⟩ hR) ⟨Pr.blind, va_recv hK hw.1 hc (by rw [wd_at E σ hT, hcl]), fun U hU hW => ⟨rfl, hpr U hU hW⟩⟩ rfl hn hz rfl (lv_room hrest) hdg hf
theorem q_runS (C : Cx E p s m args meth c cc nL ret own) (hw : Wd T E σ s H locs) (hz : ls.size = nL) {y : MethodName} {cy : ByteArray} {nl n idx fr lo : Nat} {rt : Option FieldType} {As : List Value} {Qc : Array Value → State → Outcome → State → Prop}
    (hM : Met l y (.code y cy nl rt :: lw_gd) { frames := fr, cells := 0, slots := 0, locals := lo } (va_Pc As (Pr T E σ)) Qc 0 0 E.2.2.1)
    (hy : yS y cy nl rt n) (hk : Cond.methodLink own idx y ∈ lw_gd) (hR : fr + 1 ≤ R.frames ∧ 8 + (nl + 11) + lo ≤ R.locals) (hn : As.length = n) (hrest : (rest.map fun v => v.category).sum ≤ 8) (hf : cells ≤ R.cells ∧ slots ≤ R.slots)
    (hdg : decode cc pc = .ok (.invokestatic idx, 3)) : va_Run p l e R s m args below meth c H locs cells slots 0 0 (F0 m pc ls (As.reverse ++ rest)) rest (Qc As.toArray) E.2.2.1 := by
  have hpr := fun (U : State) (hU : U.heap = H) (hW : s.WarmedH U.vm) => Pr.at C hw hU hW
  obtain ⟨hx, hb, hml, hown, hts, hK, hSt, hlk, hr⟩ := C
  refine va_runS (As := As) (rest := rest) (nL := nL) ⟨hx, hb, hml, hown, hts⟩ hM (va_cwS n hts (yS_in hy hk) rfl rfl rfl hy.1 hR) ⟨Pr.blind, fun U hU hW => ⟨rfl, hpr U hU hW⟩⟩ rfl hn hz rfl (lv_room hrest) hdg hf
/-- behind a call -/
theorem q_afterI {st0 : List Value} {r : Int32} {a : Array Value} (hw : Wd T E σ s H locs) (hr : va_Run p l e R s m args below meth c H locs cells slots 0 0 (F0 m pc ls st0) rest (QI T E r τ a) E.2.2.1)
    (kk : ∀ (H1 : Heap) (locs1 : List Loc), Wd T E τ s H1 locs1 → W p l e R s m args below meth c H1 locs1 cells slots Q (F0 m (pc + 3) ls (.int r :: rest))) : W p l e R s m args below meth c H locs cells slots Q (F0 m pc ls st0) := by
  refine va_calli hr hw.2.2 (fun q _ h => h) (fun q h => h) (fun r1 u t H1 locs1 ht hvm hq hB hz1 hk1 hS => ?_)
  obtain ⟨rfl, rfl⟩ := hq
  unfold Po at hB
  rw [ht] at hB
  exact kk H1 locs1 ⟨hB, wd_D _ _ hw.2.1, hS⟩
theorem q_afterL {st0 : List Value} {r : Int64} {a : Array Value} (hw : Wd T E σ s H locs) (hr : va_Run p l e R s m args below meth c H locs cells slots 0 0 (F0 m pc ls st0) rest (QL T E r τ a) E.2.2.1)
    (kk : ∀ (H1 : Heap) (locs1 : List Loc), Wd T E τ s H1 locs1 → W p l e R s m args below meth c H1 locs1 cells slots Q (F0 m (pc + 3) ls (.long r :: rest))) : W p l e R s m args below meth c H locs cells slots Q (F0 m pc ls st0) := by
  refine va_calll hr hw.2.2 (fun q _ h => h) (fun q h => h) (fun r1 u t H1 locs1 ht hvm hq hB hz1 hk1 hS => ?_)
  obtain ⟨rfl, rfl⟩ := hq
  unfold Po at hB
  rw [ht] at hB
  exact kk H1 locs1 ⟨hB, wd_D _ _ hw.2.1, hS⟩
theorem q_afterV {st0 : List Value} {a : Array Value} (hw : Wd T E σ s H locs) (hr : va_Run p l e R s m args below meth c H locs cells slots 0 0 (F0 m pc ls st0) rest (QV T E τ a) E.2.2.1)
    (kk : ∀ (H1 : Heap) (locs1 : List Loc), Wd T E τ s H1 locs1 → W p l e R s m args below meth c H1 locs1 cells slots Q (F0 m (pc + 3) ls rest)) : W p l e R s m args below meth c H locs cells slots Q (F0 m pc ls st0) := by
  refine va_callv hr hw.2.2 (fun q _ h => h) (fun q h => h) (fun u t H1 locs1 ht hvm hq hB hz1 hk1 hS => ?_)
  subst hq
  unfold Po at hB
  rw [ht] at hB
  exact kk H1 locs1 ⟨hB, wd_D _ _ hw.2.1, hS⟩
end ROWS
