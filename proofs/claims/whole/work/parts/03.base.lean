abbrev vwCl : List vw_C := [(RX0, TX0, 4), (RX1, TX1, 7), (RX2, TX2, 2), (RX3, TX3, 3), (RX4, TX4, 10), (RX5, TX5, 5), (RX6, TX6, 4), (RX7, TX7, 11)]
/-! ===== class ids, the environment, contracts that only look and contracts that change ===== -/
/-- classes of objects, their slots; classes of arrays: 0 int, 1 Product, 2 Vendor, 3 Unit, 4 Desk, 5 long -/
abbrev ke_E : Type := va_G × (Nat → ClassId)
def ke_T (E : ke_E) : List (ClassId × FieldType) := [(E.2 0, .int), (E.2 1, .object RX3), (E.2 2, .object RX5), (E.2 3, .object RX4), (E.2 4, .object RX1), (E.2 5, .long)]
abbrev ke_q : Type := String × Nat × MethodName × String
def ke_n : List ke_q := [(RX6, 28, yX0_init, RX6), (RX0, 25, yX6_isIndex, RX6), (RX1, 33, yX3_init, RX6), (RX1, 34, yX5_init, RX6), (RX1, 35, yX4_init, RX6), (RX1, 50, yX6_copyNumbers, RX6), (RX1, 60, yX6_isIndex, RX6), (RX1, 74, yX6_inside, RX6), (RX2, 25, yX6_isIndex, RX6), (RX4, 61, yX6_copyNumbers, RX6), (RX5, 23, yX6_copyNumbers, RX6)]
def ke (E : ke_E) (U : State) : Prop := va_K E.1 vwCl (ke_T E) U ∧ (∀ q ∈ ke_n, va_Nw (.methodLinkNest q.1 q.2.1 q.2.2.1 q.2.2.2) U) ∧ ∀ C ∈ [RX1, RX3, RX4, RX5], va_AO C U
theorem ke_warm {E : ke_E} {s U : State} (hW : s.WarmedH U.vm) (h : ke E s) : ke E U := ⟨va_K.moved hW.alike h.1, fun q hq => va_Nw.warmM hW (h.2.1 q hq), fun C hC => va_AO.moved hW.alike (h.2.2 C hC)⟩
/-- a start: the arguments, the environment, the heap's picture -/
def kp (E : ke_E) (av : List Value) (Pic : Heap → Prop) : Array Value → State → Prop := fun v U => v = av.toArray ∧ ke E U ∧ Pic U.heap
theorem kp_blind {E : ke_E} {av : List Value} {Pic : Heap → Prop} : FrameBlind (kp E av Pic) := fun _ U _ _ h => ⟨h.1, ke_warm (State.WarmedH.refl U) h.2.1, h.2.2⟩
/-- an end that changed nothing -/
def qp (v : Option Value) : Array Value → State → Outcome → State → Prop := fun _ st oc t => oc = .returned v ∧ t.heap = st.heap
/-- an end that changed at most what A names -/
def qm (v : Option Value) (A : Nat → Prop) (Pic : Heap → Prop) : Array Value → State → Outcome → State → Prop := fun _ st oc t => oc = .returned v ∧ Pic t.heap ∧ va_F A st t
def nof : Nat → Prop := fun _ => False
/-- a block of addresses -/
def bl (lo n : Nat) : Nat → Prop := fun q => lo ≤ q ∧ q < lo + n
/-! classical words: an if, a truth value as an int -/
noncomputable def iF {α : Type} (P : Prop) (a b : α) : α := @ite α P (Classical.propDecidable P) a b
theorem iF_t {α : Type} {P : Prop} {a b : α} (h : P) : iF P a b = a := @if_pos P (Classical.propDecidable P) h α a b
theorem iF_f {α : Type} {P : Prop} {a b : α} (h : ¬ P) : iF P a b = b := @if_neg P (Classical.propDecidable P) h α a b
theorem iF_c {α : Type} {P Q : Prop} {a b : α} (h : P ↔ Q) : iF P a b = iF Q a b := by
  by_cases hP : P
  · rw [iF_t hP, iF_t (h.mp hP)]
  · rw [iF_f hP, iF_f (fun q => hP (h.mpr q))]
noncomputable def bI (P : Prop) : Int32 := iF P (nI 1) (nI 0)
theorem bI_t {P : Prop} (h : P) : bI P = nI 1 := iF_t h
theorem bI_f {P : Prop} (h : ¬ P) : bI P = nI 0 := iF_f h
theorem bI_c {P Q : Prop} (h : P ↔ Q) : bI P = bI Q := iF_c h
theorem nI_ne10 : ¬ nI 1 = 0 := by decide +kernel
theorem bI_0 {P : Prop} : bI P = 0 ↔ ¬ P := by
  by_cases h : P
  · rw [bI_t h]; exact ⟨fun q => absurd q nI_ne10, fun q => absurd h q⟩
  · rw [bI_f h]; exact ⟨fun _ => h, fun _ => nI_0⟩
theorem bI_1 {P : Prop} : bI P = nI 1 ↔ P := by
  by_cases h : P
  · rw [bI_t h]; exact ⟨fun _ => h, fun _ => rfl⟩
  · rw [bI_f h]; exact ⟨fun q => by rw [nI_0] at q; exact absurd q.symm nI_ne10, fun q => absurd q h⟩
theorem bI_nar (P : Prop) : narrow .boolean (.int (bI P)) = .int (bI P) := by
  by_cases h : P
  · rw [bI_t h]; rfl
  · rw [bI_f h]; rfl
section KE
variable {p : Program} {l : Launch} {e : Env} {R : Room} {s : State} {m : MethodId} {args : Array Value} {below : List Frame} {meth : Method} {c : Code} {H : Heap} {locs : List Loc} {cells slots : Nat} {Q : State → Prop}
variable {cc : ByteArray} {pc nL : Nat} {ls : Array Slot} {rest st0 : List Value} {E : ke_E} {Ts : List Cond} {own : String} {A : Nat → Prop} {H0 : Heap} {a : Nat}
/-- THE HEAD OF ANY METHOD -/
theorem k_hd {y : MethodName} {ws ws' : List Cond} {rm : Room} {av : List Value} {Pic : Heap → Prop} {Qc : Array Value → State → Outcome → State → Prop} {mc ms : Nat} {free : Addr → Prop} {maxL : Nat} {ret : Option FieldType} (hy : plainName y.cls = true) (hw : ws = Cond.code y cc maxL ret :: ws') (hn : (lg_sl av).length ≤ maxL)
    (body : ∀ (p : Program) (e : Env) (s : State) (m : MethodId) (below : List Frame) (meth : Method) (c : Code) (ls : Array Slot), CallFix p m c cc maxL s av.toArray ws y.cls → meth.sig.returnType = ret → meth.locks = false → meth.name = y.name → ke E s → Pic s.heap → lv_has ls maxL (lv_args 0 av) →
      W p l e (headSpec ws rm).room s m av.toArray below meth c s.heap [] 0 0 (MQ below Qc av.toArray s mc ms free) (F0 m 0 ls [])) : Met l y ws rm (kp E av Pic) Qc mc ms free := by
  refine Met.ofW (cc := cc) (maxL := maxL) (ret := ret) hy hw ?_
  intro p e s m args below meth c s₁ B hml hv
  obtain ⟨rfl, hK, hP⟩ := hv
  have hts := atoms_spec (ws := ws) B.pre
  have hown : s.vm.findClass y.cls = some m.cls := findClass_of_methodNamed B.named
  rw [lg_entry_eq]
  exact body p e s m below meth c _ ⟨B.exec, B.bytes, hml, hown, hts⟩ B.returns B.notSynchronized (name_of_methodNamed B.named B.method).1 hK hP (lv_entry av hn)
/-! ints that are small numbers -/
theorem n_iadd {x y n : Nat} (hx : p.tables.exec = Jvm.exec) (hb : c.code = cc) (hdg : decode cc pc = .ok (.iadd, 1)) (h : x + y = n) (k : W p l e R s m args below meth c H locs cells slots Q (F0 m (pc + 1) ls (.int (nI n) :: rest))) : W p l e R s m args below meth c H locs cells slots Q (F0 m pc ls (.int (nI y) :: .int (nI x) :: rest)) :=
  lv_iadd hx hb hdg (by rw [nI_add, h]; exact k)
theorem n_isub {x y n : Nat} (hx : p.tables.exec = Jvm.exec) (hb : c.code = cc) (hdg : decode cc pc = .ok (.isub, 1)) (h : n + y = x) (k : W p l e R s m args below meth c H locs cells slots Q (F0 m (pc + 1) ls (.int (nI n) :: rest))) : W p l e R s m args below meth c H locs cells slots Q (F0 m pc ls (.int (nI y) :: .int (nI x) :: rest)) :=
  lv_isub hx hb hdg (by rw [pk_sub (by omega), show x - y = n by omega]; exact k)
theorem n_imul {x y n : Nat} (hx : p.tables.exec = Jvm.exec) (hb : c.code = cc) (hdg : decode cc pc = .ok (.imul, 1)) (h : x * y = n) (k : W p l e R s m args below meth c H locs cells slots Q (F0 m (pc + 1) ls (.int (nI n) :: rest))) : W p l e R s m args below meth c H locs cells slots Q (F0 m pc ls (.int (nI y) :: .int (nI x) :: rest)) :=
  lv_imul hx hb hdg (by rw [pk_mul, h]; exact k)
/-- the top of the stack by another name -/
theorem k_top {x y : Int32} (h : x = y) (k : W p l e R s m args below meth c H locs cells slots Q (F0 m pc ls (.int y :: rest))) : W p l e R s m args below meth c H locs cells slots Q (F0 m pc ls (.int x :: rest)) := h ▸ k
theorem k_top2 {x y : Int32} {v : Value} (h : x = y) (k : W p l e R s m args below meth c H locs cells slots Q (F0 m pc ls (v :: .int y :: rest))) : W p l e R s m args below meth c H locs cells slots Q (F0 m pc ls (v :: .int x :: rest)) := h ▸ k
/-! fields and arrays -/
theorem k_one {D : va_G} {cl : List vw_C} {q : Nat × va_E} (h : va_at D cl q H) : va_P D cl [q] H := by
  intro k x hx
  have hk : k < 1 := (List.getElem?_eq_some_iff.mp hx).1
  rw [show k = 0 by omega] at hx
  cases hx
  exact h
theorem k_get {ref C : String} {T : u_T} {N ci index : Nat} {fs : List Value} (S : CallFix p m c cc nL s args Ts own) (hK : ke E s) (hat : va_at E.1 vwCl (a, .inr (ci, fs)) H) (hc : vwCl[ci]? = some (C, T, N)) (hin : ∀ w ∈ u_ws C T N, w ∈ Ts) (k : Nat) (hk : k < N) (hlink : Cond.fieldLink own index ref (T k).2.1 (T k).2.2.1 ∈ Ts) (href : (T k).1 = ref) {v : Value} (hv : fs[k]? = some v) (hdg : decode cc pc = .ok (.getfield index, 3))
    (kk : W p l e R s m args below meth c H locs cells slots Q (F0 m (pc + 3) ls (v :: rest))) : W p l e R s m args below meth c H locs cells slots Q (F0 m pc ls (.ref a :: rest)) :=
  va_get S.1 S.2.1 S.2.2.2.2 hin S.2.2.2.1 hK.1 (k_one hat) 0 rfl hc k hk (S.2.2.2.2 _ hlink) (fun x h => by rw [← href]; exact h) hv hdg kk
theorem k_put {ref C : String} {T : u_T} {N ci index : Nat} {fs : List Value} (S : CallFix p m c cc nL s args Ts own) (hK : ke E s) (hat : va_at E.1 vwCl (a, .inr (ci, fs)) H) (hc : vwCl[ci]? = some (C, T, N)) (hin : ∀ w ∈ u_ws C T N, w ∈ Ts) {ty0 : Nat → FieldType} (hty : ∀ k, k < N → parseFieldDescriptor (T k).2.2.1 = some (ty0 k)) (hnm : ∀ a, a < N → ∀ b, b < N → a ≠ b → (T a).2.1 ≠ (T b).2.1) (k : Nat) (hk : k < N) (hlink : Cond.fieldLink own index ref (T k).2.1 (T k).2.2.1 ∈ Ts) (href : (T k).1 = ref) (hfin : (T k).2.2.2 = false) {v : Value} (hn : narrow (ty0 k) v = v) (hfit : fits (ty0 k) v = true) (hl : k < fs.length) (hS : va_S A H0 H locs) (hA : A a) (hdg : decode cc pc = .ok (.putfield index, 3))
    (kk : ∀ (H1 : Heap) (locs1 : List Loc), va_at E.1 vwCl (a, .inr (ci, fs.set k v)) H1 → H1.size = H.size → (∀ q : Nat, q ≠ a → H1[q]? = H[q]?) → va_S A H0 H1 locs1 → W p l e R s m args below meth c H1 locs1 cells slots Q (F0 m (pc + 3) ls rest)) : W p l e R s m args below meth c H locs cells slots Q (F0 m pc ls (v :: .ref a :: rest)) := by
  have hap := va_apart (own := own) S.2.2.2.2 hin ty0 hty hnm hK.1 hc
  obtain ⟨r, h1, cell, q1, q2, q3, q4⟩ := hat
  have hr : r = (C, T, N) := Option.some.inj (h1.symm.trans hc)
  subst hr
  obtain ⟨hSl, hfc, kC, hkC, hkind⟩ := hK.1.1 ci _ hc
  obtain ⟨cf, kf, fi, f, hi, hsl⟩ := hSl k hk
  have hlay := S.2.2.2.2 _ (hin _ (u_in_lay hk))
  unfold u_lay at hlay
  rw [if_neg (by rw [hfin]; decide)] at hlay
  have hst := (u_facts hfc hkC (u_lays S.2.2.2.2 hin hk) hi).1
  have h6 := u_store hfc hkC hkind hlay hi (hty k hk) hn hfit
  refine W.putK S.1 S.2.1 (f := f) ⟨S.2.2.2.1, S.2.2.2.2 _ hlink, ⟨_, _, _, (by rw [← href]; exact hi)⟩, hst⟩ (by rw [q2]; exact h6) q1 q3 (by rw [hsl]; exact k2_hasslot (q4 k hk)) rfl rfl hdg fun H' e1 e2 e3 => ?_
  rw [hsl] at e1 ⊢
  exact kk H' _ ⟨_, hc, t_OB.to (V := updV (vp_V fs) k v) ⟨_, e1, q2, q3, t_set q4 hap hk v⟩ (fun j _ => vp_updV_set hl v j)⟩ e2 e3 (hS.put e2 e3 hA)
theorem k_iald {n : Nat} {f : Nat → Int32} (hx : p.tables.exec = Jvm.exec) (hb : c.code = cc) (hK : ke E s) (hat : va_at E.1 vwCl (a, .inl (E.2 0, n, .inl f)) H) {i : Nat} (hi : i < n) (hn : n < 2 ^ 31) {v : Int32} (hv : f i = v) (hdg : decode cc pc = .ok (.iaload, 1))
    (kk : W p l e R s m args below meth c H locs cells slots Q (F0 m (pc + 1) ls (.int v :: rest))) : W p l e R s m args below meth c H locs cells slots Q (F0 m pc ls (.int (nI i) :: .ref a :: rest)) := by
  refine va_iald hx hb hK.1 (k_one hat) 0 0 rfl rfl (vp_in_nI hi hn) hdg ?_
  rw [nI_clamp (by omega), hv]
  exact kk
theorem k_iast {n : Nat} {f : Nat → Int32} (hx : p.tables.exec = Jvm.exec) (hb : c.code = cc) (hK : ke E s) (hat : va_at E.1 vwCl (a, .inl (E.2 0, n, .inl f)) H) {i : Nat} (hi : i < n) (hn : n < 2 ^ 31) {x : Int32} (hS : va_S A H0 H locs) (hA : A a) (hdg : decode cc pc = .ok (.iastore, 1))
    (kk : ∀ (H1 : Heap) (locs1 : List Loc), va_at E.1 vwCl (a, .inl (E.2 0, n, .inl (upd f i x))) H1 → H1.size = H.size → (∀ q : Nat, q ≠ a → H1[q]? = H[q]?) → va_S A H0 H1 locs1 → W p l e R s m args below meth c H1 locs1 cells slots Q (F0 m (pc + 1) ls rest)) : W p l e R s m args below meth c H locs cells slots Q (F0 m pc ls (.int x :: .int (nI i) :: .ref a :: rest)) := by
  have hin := vp_in_nI hi hn
  have hck := nI_clamp (n := i) (by omega)
  refine W.iast hx hb hat ((hK.1.2 0 _ rfl).1 n (fun j => .int (f j))) (fun q => by cases q) (by show ¬ (nI i < 0 ∨ (arrV _ _ _).slots.size ≤ _); rw [arrV_size]; exact hin) rfl rfl hdg fun H1 e z oq => ?_
  refine kk H1 _ ?_ z oq (hS.put z oq hA)
  show H1[a]? = some (vp_cell _ _)
  rw [e]
  rw [vp_cell_i, vp_cell_i, arrV_store]
  congr 2
  funext q
  rw [hck]
  by_cases hq : q = i
  · subst hq
    simp [updV, upd]
  · simp [updV, upd, hq]
theorem k_aald {n t : Nat} {C : String} {f : Nat → Option Nat} (hx : p.tables.exec = Jvm.exec) (hb : c.code = cc) (hK : ke E s) (ht : (ke_T E)[t]? = some (E.2 t, .object C)) (hat : va_at E.1 vwCl (a, .inl (E.2 t, n, .inr (.inr (.inr (.inr f))))) H) {i : Nat} (hi : i < n) (hn : n < 2 ^ 31) {v : Nat} (hv : f i = some v) (hdg : decode cc pc = .ok (.aaload, 1))
    (kk : W p l e R s m args below meth c H locs cells slots Q (F0 m (pc + 1) ls (.ref v :: rest))) : W p l e R s m args below meth c H locs cells slots Q (F0 m pc ls (.int (nI i) :: .ref a :: rest)) := by
  refine va_aldq hx hb hK.1 (k_one hat) 0 t rfl ht (vp_in_nI hi hn) hdg ?_
  rw [nI_clamp (by omega), hv]
  exact kk
theorem k_alen {t : Nat} {ty : FieldType} {x : vp_A} (hx : p.tables.exec = Jvm.exec) (hb : c.code = cc) (hK : ke E s) (ht : (ke_T E)[t]? = some (E.2 t, ty)) (hat : va_at E.1 vwCl (a, .inl (E.2 t, x)) H) (hdg : decode cc pc = .ok (.arraylength, 1))
    (kk : W p l e R s m args below meth c H locs cells slots Q (F0 m (pc + 1) ls (.int (nI x.1) :: rest))) : W p l e R s m args below meth c H locs cells slots Q (F0 m pc ls (.ref a :: rest)) :=
  va_alen hx hb hK.1 (k_one hat) 0 t rfl ht rfl hdg kk
theorem k_recv {b ci : Nat} {fs : List Value} {C : String} {T : u_T} {N : Nat} (hK : ke E s) (hat : va_at E.1 vwCl (b, .inr (ci, fs)) H) (hc : vwCl[ci]? = some (C, T, N)) : ∃ cell : Cell, H[b]? = some cell ∧ cell.vm.isStatics = false ∧ s.vm.findClass C = some cell.cls :=
  va_recv hK.1 (k_one hat) hc (q0 := 0) rfl
/-! calls -/
theorem k_callP {v : Option Value} {av : Array Value} (hr : va_Run p l e R s m args below meth c H locs cells slots 0 0 (F0 m pc ls st0) rest (qp v av) nof)
    (kk : W p l e R s m args below meth c H locs cells slots Q (F0 m (pc + 3) ls (v.toList ++ rest))) : W p l e R s m args below meth c H locs cells slots Q (F0 m pc ls st0) := by
  intro T hT X
  obtain ⟨v', st₀, t, T', L, h0, X', hL, e1, e2, ⟨hv, hh⟩, st⟩ := hr T hT X
  cases hv
  obtain ⟨t2, a1, b1⟩ := kk T' (by rw [e1, hh, h0]) (Stand.forget X' (fun q h => (hL q h).elim))
  exact ⟨t2, st t2 a1, b1⟩
theorem k_callM {v : Option Value} {av : Array Value} {A1 : Nat → Prop} {Pic : Heap → Prop} {free : Addr → Prop} {mc ms : Nat} (hr : va_Run p l e R s m args below meth c H locs cells slots mc ms (F0 m pc ls st0) rest (qm v A1 Pic av) free) (hS : va_S A H0 H locs) (hA : ∀ q, q < H.size → A1 q → A q) (hf : ∀ q, free q → A q)
    (kk : ∀ (H1 : Heap) (locs1 : List Loc), Pic H1 → H.size ≤ H1.size → (∀ q : Nat, q < H.size → ¬ A1 q → H1[q]? = H[q]?) → va_S A H0 H1 locs1 → W p l e R s m args below meth c H1 locs1 (cells + mc) (slots + ms) Q (F0 m (pc + 3) ls (v.toList ++ rest))) : W p l e R s m args below meth c H locs cells slots Q (F0 m pc ls st0) := by
  intro T hT X
  obtain ⟨v', st₀, t, T', L, h0, X', hL, e1, e2, ⟨hv, hp, hz, hk⟩, st⟩ := hr T hT X
  cases hv
  rw [h0] at hz hk
  obtain ⟨t2, a1, b1⟩ := kk T'.heap (locs ++ L) (by rw [e1]; exact hp) (by rw [e1]; exact hz) (fun q h1 h2 => by rw [e1]; exact hk q h1 h2)
    ⟨Nat.le_trans hS.1 (by rw [e1]; exact hz), fun q h1 h2 => by rw [e1, hk q (Nat.lt_of_lt_of_le h1 hS.1) (fun z => h2 (hA q (Nat.lt_of_lt_of_le h1 hS.1) z))]; exact hS.2.1 q h1 h2, fun q hq => by
      rcases List.mem_append.mp hq with h | h
      · exact hS.2.2 q h
      · exact hf _ (hL q h)⟩ T' rfl X'
  exact ⟨t2, st t2 a1, b1⟩
variable {y : MethodName} {bytes : ByteArray} {maxL index n : Nat} {ret : Option FieldType} {ws ws' : List Cond} {rm : Room} {C : String} {b : Nat} {As : List Value} {Pic : Heap → Prop} {v : Option Value}
abbrev k_hd1 (y : MethodName) (C : String) (n : Nat) : Prop := y.cls = C ∧ y.cls ≠ "java/lang/invoke/MethodHandle" ∧ y.cls ≠ "java/lang/invoke/VarHandle" ∧ (parseMethodDescriptor y.desc).map (fun d => d.parameters.length) = some n
/-- an instance method is called that only looks -/
theorem k_V (S : CallFix p m c cc nL s args Ts own) (hK : ke E s) (hM : Met l y ws rm (kp E (.ref b :: As) Pic) (qp v) 0 0 nof) (hG : GoodIn Ts (wsV own index C y ws)) (hw : ws = Cond.code y bytes maxL ret :: ws') (hd : k_hd1 y C n) (hrm : rm.cells = 0 ∧ rm.slots = 0) (hR : rm.frames + 1 ≤ R.frames ∧ 8 + (maxL + 11) + rm.locals ≤ R.locals)
    (hrec : ∃ cell : Cell, H[b]? = some cell ∧ cell.vm.isStatics = false ∧ s.vm.findClass C = some cell.cls) (hPic : Pic H) (hlen : As.length = n) (hsz : ls.size = nL) (hst : st0 = As.reverse ++ .ref b :: rest) (hW : (rest.map fun v => v.category).sum ≤ 8) (hdg : decode cc pc = .ok (.invokevirtual index, 3)) (hcs : cells ≤ R.cells ∧ slots ≤ R.slots)
    (kk : W p l e R s m args below meth c H locs cells slots Q (F0 m (pc + 3) ls (v.toList ++ rest))) : W p l e R s m args below meth c H locs cells slots Q (F0 m pc ls st0) :=
  k_callP (va_runV (As := As) (rest := rest) S hM (cwV n S.2.2.2.2 hG hw hrm.1 hrm.2 hd hR) ⟨kp_blind, hrec, fun U hU hW => ⟨rfl, ke_warm hW hK, by rw [hU]; exact hPic⟩⟩ rfl hlen hsz hst (lv_room hW) hdg hcs) kk
/-- .. a static one of the same class -/
theorem k_S (S : CallFix p m c cc nL s args Ts own) (hK : ke E s) (hM : Met l y ws rm (kp E As Pic) (qp v) 0 0 nof) (hG : GoodIn Ts (va_wsS own index y ws)) (hw : ws = Cond.code y bytes maxL ret :: ws') (hd : k_hd1 y C n) (hrm : rm.cells = 0 ∧ rm.slots = 0) (hR : rm.frames + 1 ≤ R.frames ∧ 8 + (maxL + 11) + rm.locals ≤ R.locals)
    (hPic : Pic H) (hlen : As.length = n) (hsz : ls.size = nL) (hst : st0 = As.reverse ++ rest) (hW : (rest.map fun v => v.category).sum ≤ 8) (hdg : decode cc pc = .ok (.invokestatic index, 3)) (hcs : cells ≤ R.cells ∧ slots ≤ R.slots)
    (kk : W p l e R s m args below meth c H locs cells slots Q (F0 m (pc + 3) ls (v.toList ++ rest))) : W p l e R s m args below meth c H locs cells slots Q (F0 m pc ls st0) :=
  k_callP (va_runS (As := As) (rest := rest) S hM (va_cwS n S.2.2.2.2 hG hw hrm.1 hrm.2 hd.2 hR) ⟨kp_blind, fun U hU hW => ⟨rfl, ke_warm hW hK, by rw [hU]; exact hPic⟩⟩ rfl hlen hsz hst (lv_room hW) hdg hcs) kk
/-- .. a private static one of a nest mate -/
theorem k_SN {q : ke_q} (S : CallFix p m c cc nL s args Ts q.1) (hK : ke E s) (hq : q ∈ ke_n) (hM : Met l q.2.2.1 ws rm (kp E As Pic) (qp v) 0 0 nof) (hG : GoodIn Ts ws) (hw : ws = Cond.code q.2.2.1 bytes maxL ret :: ws') (hd : k_hd1 q.2.2.1 C n) (hst9 : Cond.static q.2.2.1 ∈ Ts) (hini : Cond.initialized q.2.2.1.cls ∈ Ts) (hrm : rm.cells = 0 ∧ rm.slots = 0) (hR : rm.frames + 1 ≤ R.frames ∧ 8 + (maxL + 11) + rm.locals ≤ R.locals)
    (hPic : Pic H) (hlen : As.length = n) (hsz : ls.size = nL) (hst : st0 = As.reverse ++ rest) (hW : (rest.map fun v => v.category).sum ≤ 8) (hdg : decode cc pc = .ok (.invokestatic q.2.1, 3)) (hcs : cells ≤ R.cells ∧ slots ≤ R.slots)
    (kk : W p l e R s m args below meth c H locs cells slots Q (F0 m (pc + 3) ls (v.toList ++ rest))) : W p l e R s m args below meth c H locs cells slots Q (F0 m pc ls st0) :=
  k_callP (va_runSN (As := As) (rest := rest) S hM ⟨va_cnB n S.2.2.2.2 hG hw hrm.1 hrm.2 (hK.2.1 q hq) (S.2.2.2.2 _ hini) hd.2 hR, S.2.2.2.2 _ hst9, trivial⟩ ⟨kp_blind, fun U hU hW => ⟨rfl, ke_warm hW hK, by rw [hU]; exact hPic⟩⟩ rfl hlen hsz hst (lv_room hW) hdg hcs) kk
/-- an instance method is called that changes -/
theorem k_VM {mc ms : Nat} {A1 free : Nat → Prop} {Pc : Heap → Prop} (S : CallFix p m c cc nL s args Ts own) (hK : ke E s) (hM : Met l y ws rm (kp E (.ref b :: As) Pic) (qm v A1 Pc) mc ms free) (hG : GoodIn Ts (wsV own index C y ws)) (hw : ws = Cond.code y bytes maxL ret :: ws') (hd : k_hd1 y C n) (hrm : rm.cells = mc ∧ rm.slots = ms) (hR : rm.frames + 1 ≤ R.frames ∧ 8 + (maxL + 11) + rm.locals ≤ R.locals)
    (hrec : ∃ cell : Cell, H[b]? = some cell ∧ cell.vm.isStatics = false ∧ s.vm.findClass C = some cell.cls) (hPic : Pic H) (hlen : As.length = n) (hsz : ls.size = nL) (hst : st0 = As.reverse ++ .ref b :: rest) (hW : (rest.map fun v => v.category).sum ≤ 8) (hdg : decode cc pc = .ok (.invokevirtual index, 3)) (hcs : cells + mc ≤ R.cells ∧ slots + ms ≤ R.slots)
    (hS : va_S A H0 H locs) (hA : ∀ q, A1 q → A q) (hf : ∀ q, free q → A q)
    (kk : ∀ (H1 : Heap) (locs1 : List Loc), Pc H1 → H.size ≤ H1.size → (∀ q : Nat, q < H.size → ¬ A1 q → H1[q]? = H[q]?) → va_S A H0 H1 locs1 → W p l e R s m args below meth c H1 locs1 (cells + mc) (slots + ms) Q (F0 m (pc + 3) ls (v.toList ++ rest))) : W p l e R s m args below meth c H locs cells slots Q (F0 m pc ls st0) :=
  k_callM (va_runV (As := As) (rest := rest) S hM (cwV n S.2.2.2.2 hG hw hrm.1 hrm.2 hd hR) ⟨kp_blind, hrec, fun U hU hW => ⟨rfl, ke_warm hW hK, by rw [hU]; exact hPic⟩⟩ rfl hlen hsz hst (lv_room hW) hdg hcs) hS (fun q _ h => hA q h) hf kk
theorem k_SM {mc ms : Nat} {A1 free : Nat → Prop} {Pc : Heap → Prop} (S : CallFix p m c cc nL s args Ts own) (hK : ke E s) (hM : Met l y ws rm (kp E As Pic) (qm v A1 Pc) mc ms free) (hG : GoodIn Ts (va_wsS own index y ws)) (hw : ws = Cond.code y bytes maxL ret :: ws') (hd : k_hd1 y C n) (hrm : rm.cells = mc ∧ rm.slots = ms) (hR : rm.frames + 1 ≤ R.frames ∧ 8 + (maxL + 11) + rm.locals ≤ R.locals)
    (hPic : Pic H) (hlen : As.length = n) (hsz : ls.size = nL) (hst : st0 = As.reverse ++ rest) (hW : (rest.map fun v => v.category).sum ≤ 8) (hdg : decode cc pc = .ok (.invokestatic index, 3)) (hcs : cells + mc ≤ R.cells ∧ slots + ms ≤ R.slots)
    (hS : va_S A H0 H locs) (hA : ∀ q, A1 q → A q) (hf : ∀ q, free q → A q)
    (kk : ∀ (H1 : Heap) (locs1 : List Loc), Pc H1 → H.size ≤ H1.size → (∀ q : Nat, q < H.size → ¬ A1 q → H1[q]? = H[q]?) → va_S A H0 H1 locs1 → W p l e R s m args below meth c H1 locs1 (cells + mc) (slots + ms) Q (F0 m (pc + 3) ls (v.toList ++ rest))) : W p l e R s m args below meth c H locs cells slots Q (F0 m pc ls st0) :=
  k_callM (va_runS (As := As) (rest := rest) S hM (va_cwS n S.2.2.2.2 hG hw hrm.1 hrm.2 hd.2 hR) ⟨kp_blind, fun U hU hW => ⟨rfl, ke_warm hW hK, by rw [hU]; exact hPic⟩⟩ rfl hlen hsz hst (lv_room hW) hdg hcs) hS (fun q _ h => hA q h) hf kk
theorem k_SNM {q : ke_q} {mc ms : Nat} {A1 free : Nat → Prop} {Pc : Heap → Prop} (S : CallFix p m c cc nL s args Ts q.1) (hK : ke E s) (hq : q ∈ ke_n) (hM : Met l q.2.2.1 ws rm (kp E As Pic) (qm v A1 Pc) mc ms free) (hG : GoodIn Ts ws) (hw : ws = Cond.code q.2.2.1 bytes maxL ret :: ws') (hd : k_hd1 q.2.2.1 C n) (hst9 : Cond.static q.2.2.1 ∈ Ts) (hini : Cond.initialized q.2.2.1.cls ∈ Ts) (hrm : rm.cells = mc ∧ rm.slots = ms) (hR : rm.frames + 1 ≤ R.frames ∧ 8 + (maxL + 11) + rm.locals ≤ R.locals)
    (hPic : Pic H) (hlen : As.length = n) (hsz : ls.size = nL) (hst : st0 = As.reverse ++ rest) (hW : (rest.map fun v => v.category).sum ≤ 8) (hdg : decode cc pc = .ok (.invokestatic q.2.1, 3)) (hcs : cells + mc ≤ R.cells ∧ slots + ms ≤ R.slots)
    (hS : va_S A H0 H locs) (hA : ∀ q, A1 q → A q) (hf : ∀ q, free q → A q)
    (kk : ∀ (H1 : Heap) (locs1 : List Loc), Pc H1 → H.size ≤ H1.size → (∀ q : Nat, q < H.size → ¬ A1 q → H1[q]? = H[q]?) → va_S A H0 H1 locs1 → W p l e R s m args below meth c H1 locs1 (cells + mc) (slots + ms) Q (F0 m (pc + 3) ls (v.toList ++ rest))) : W p l e R s m args below meth c H locs cells slots Q (F0 m pc ls st0) :=
  k_callM (va_runSN (As := As) (rest := rest) S hM ⟨va_cnB n S.2.2.2.2 hG hw hrm.1 hrm.2 (hK.2.1 q hq) (S.2.2.2.2 _ hini) hd.2 hR, S.2.2.2.2 _ hst9, trivial⟩ ⟨kp_blind, fun U hU hW => ⟨rfl, ke_warm hW hK, by rw [hU]; exact hPic⟩⟩ rfl hlen hsz hst (lv_room hW) hdg hcs) hS (fun q _ h => hA q h) hf kk
/-- constructors: of this nest by a public or package way, of a nest mate -/
theorem k_IM {mc ms : Nat} {A1 free : Nat → Prop} {Pc : Heap → Prop} (S : CallFix p m c cc nL s args Ts own) (hK : ke E s) (hM : Met l y ws rm (kp E (.ref b :: As) Pic) (qm none A1 Pc) mc ms free) (hG : GoodIn Ts ws) (hw : ws = Cond.code y bytes maxL none :: ws') (hd : k_hd1 y C n) (hini : Cond.initialized y.cls ∈ Ts) (hlk : Cond.methodLink own index y ∈ Ts) (him : Cond.instanceMethod y ∈ Ts) (hy1 : y.name = "<init>") (hrm : rm.cells = mc ∧ rm.slots = ms) (hR : rm.frames + 1 ≤ R.frames ∧ 8 + (maxL + 11) + rm.locals ≤ R.locals)
    (hPic : Pic H) (hlen : As.length = n) (hsz : ls.size = nL) (hst : st0 = As.reverse ++ .ref b :: rest) (hW : (rest.map fun v => v.category).sum ≤ 8) (hdg : decode cc pc = .ok (.invokespecial index, 3)) (hcs : cells + mc ≤ R.cells ∧ slots + ms ≤ R.slots)
    (hS : va_S A H0 H locs) (hA : ∀ q, A1 q → A q) (hf : ∀ q, free q → A q)
    (kk : ∀ (H1 : Heap) (locs1 : List Loc), Pc H1 → H.size ≤ H1.size → (∀ q : Nat, q < H.size → ¬ A1 q → H1[q]? = H[q]?) → va_S A H0 H1 locs1 → W p l e R s m args below meth c H1 locs1 (cells + mc) (slots + ms) Q (F0 m (pc + 3) ls rest)) : W p l e R s m args below meth c H locs cells slots Q (F0 m pc ls st0) :=
  k_callM (va_runI (As := As) (rest := rest) S hM (cwI n S.2.2.2.2 hG hw hrm.1 hrm.2 (S.2.2.2.2 _ hini) (S.2.2.2.2 _ hlk) (S.2.2.2.2 _ him) hy1 hd.2 hR) ⟨kp_blind, fun U hU hW => ⟨rfl, ke_warm hW hK, by rw [hU]; exact hPic⟩⟩ rfl hlen hsz hst (lv_room hW) hdg hcs) hS (fun q _ h => hA q h) hf kk
theorem k_INM {q : ke_q} {mc ms : Nat} {A1 free : Nat → Prop} {Pc : Heap → Prop} (S : CallFix p m c cc nL s args Ts q.1) (hK : ke E s) (hq : q ∈ ke_n) (hM : Met l q.2.2.1 ws rm (kp E (.ref b :: As) Pic) (qm none A1 Pc) mc ms free) (hG : GoodIn Ts ws) (hw : ws = Cond.code q.2.2.1 bytes maxL none :: ws') (hd : k_hd1 q.2.2.1 C n) (hini : Cond.initialized q.2.2.1.cls ∈ Ts) (him : Cond.instanceMethod q.2.2.1 ∈ Ts) (hy1 : q.2.2.1.name = "<init>") (hrm : rm.cells = mc ∧ rm.slots = ms) (hR : rm.frames + 1 ≤ R.frames ∧ 8 + (maxL + 11) + rm.locals ≤ R.locals)
    (hPic : Pic H) (hlen : As.length = n) (hsz : ls.size = nL) (hst : st0 = As.reverse ++ .ref b :: rest) (hW : (rest.map fun v => v.category).sum ≤ 8) (hdg : decode cc pc = .ok (.invokespecial q.2.1, 3)) (hcs : cells + mc ≤ R.cells ∧ slots + ms ≤ R.slots)
    (hS : va_S A H0 H locs) (hA : ∀ q, A1 q → A q) (hf : ∀ q, free q → A q)
    (kk : ∀ (H1 : Heap) (locs1 : List Loc), Pc H1 → H.size ≤ H1.size → (∀ q : Nat, q < H.size → ¬ A1 q → H1[q]? = H[q]?) → va_S A H0 H1 locs1 → W p l e R s m args below meth c H1 locs1 (cells + mc) (slots + ms) Q (F0 m (pc + 3) ls rest)) : W p l e R s m args below meth c H locs cells slots Q (F0 m pc ls st0) :=
  k_callM (va_runIN (As := As) (rest := rest) S hM ⟨va_cnB n S.2.2.2.2 hG hw hrm.1 hrm.2 (hK.2.1 q hq) (S.2.2.2.2 _ hini) hd.2 hR, hy1, S.2.2.2.2 _ him⟩ ⟨kp_blind, fun U hU hW => ⟨rfl, ke_warm hW hK, by rw [hU]; exact hPic⟩⟩ rfl hlen hsz hst (lv_room hW) hdg hcs) hS (fun q _ h => hA q h) hf kk
/-! ends -/
theorem k_iret {x y : Int32} (hx : p.tables.exec = Jvm.exec) (hb : c.code = cc) (hr : meth.sig.returnType = some .int) (hlk : meth.locks = false) (hdg : decode cc pc = .ok (.ireturn, 1)) (h : y = x) : W p l e R s m args below meth c s.heap [] 0 0 (MQ below (qp (some (.int y))) args s 0 0 nof) (F0 m pc ls [.int x]) := by
  subst h
  exact W.iret hx hb hr (fun t ht _ => ⟨rfl, ht⟩) (fun _ q => nomatch q) hdg hlk
theorem k_bret {x y : Int32} (hx : p.tables.exec = Jvm.exec) (hb : c.code = cc) (hr : meth.sig.returnType = some .boolean) (hlk : meth.locks = false) (hdg : decode cc pc = .ok (.ireturn, 1)) (hn : narrow .boolean (.int x) = .int x) (h : y = x) : W p l e R s m args below meth c s.heap [] 0 0 (MQ below (qp (some (.int y))) args s 0 0 nof) (F0 m pc ls [.int x]) := by
  subst h
  exact W.zret hx hb hr hn (fun t ht _ => ⟨rfl, ht⟩) (fun _ q => nomatch q) hdg hlk
theorem k_lret {x y : Int64} (hx : p.tables.exec = Jvm.exec) (hb : c.code = cc) (hr : meth.sig.returnType = some .long) (hlk : meth.locks = false) (hdg : decode cc pc = .ok (.lreturn, 1)) (h : y = x) : W p l e R s m args below meth c s.heap [] 0 0 (MQ below (qp (some (.long y))) args s 0 0 nof) (F0 m pc ls [.long x]) := by
  subst h
  exact W.lret hx hb hr (fun t ht _ => ⟨rfl, ht⟩) (fun _ q => nomatch q) hdg hlk
theorem k_dret {x y : UInt64} (hx : p.tables.exec = Jvm.exec) (hb : c.code = cc) (hr : meth.sig.returnType = some .double) (hlk : meth.locks = false) (hdg : decode cc pc = .ok (.dreturn, 1)) (h : y = x) : W p l e R s m args below meth c s.heap [] 0 0 (MQ below (qp (some (.double y))) args s 0 0 nof) (F0 m pc ls [.double x]) := by
  subst h
  exact W.dret hx hb hr (fun t ht _ => ⟨rfl, ht⟩) (fun _ q => nomatch q) hdg hlk
theorem k_aret {x y : Nat} {nm : String} (hx : p.tables.exec = Jvm.exec) (hb : c.code = cc) (hr : meth.sig.returnType = some (.object nm)) (hlk : meth.locks = false) (hdg : decode cc pc = .ok (.areturn, 1)) (h : y = x) : W p l e R s m args below meth c s.heap [] 0 0 (MQ below (qp (some (.ref y))) args s 0 0 nof) (F0 m pc ls [.ref x]) := by
  subst h
  exact W.aret hx hb hr (Or.inl ⟨_, rfl⟩) (Or.inr ⟨_, rfl⟩) (fun t ht _ => ⟨rfl, ht⟩) (fun _ q => nomatch q) hdg hlk
theorem k_vret (hx : p.tables.exec = Jvm.exec) (hb : c.code = cc) (hr : meth.sig.returnType = none) (hlk : meth.locks = false) (hdg : decode cc pc = .ok (.return_, 1)) : W p l e R s m args below meth c s.heap [] 0 0 (MQ below (qp none) args s 0 0 nof) (F0 m pc ls []) :=
  W.vret hx hb hr (fun t ht _ => ⟨rfl, ht⟩) (fun _ q => nomatch q) hdg hlk
/-- .. with changes -/
theorem k_iretM {x y : Int32} (hx : p.tables.exec = Jvm.exec) (hb : c.code = cc) (hr : meth.sig.returnType = some .int) (hlk : meth.locks = false) (hdg : decode cc pc = .ok (.ireturn, 1)) (hS : va_S A s.heap H locs) (hP : Pic H) (h : y = x) : W p l e R s m args below meth c H locs cells slots (MQ below (qm (some (.int y)) A Pic) args s cells slots A) (F0 m pc ls [.int x]) := by
  subst h
  exact W.iret hx hb hr (fun t ht _ => ⟨rfl, by rw [ht]; exact hP, hS.F ht⟩) hS.2.2 hdg hlk
theorem k_bretM {x y : Int32} (hx : p.tables.exec = Jvm.exec) (hb : c.code = cc) (hr : meth.sig.returnType = some .boolean) (hlk : meth.locks = false) (hdg : decode cc pc = .ok (.ireturn, 1)) (hn : narrow .boolean (.int x) = .int x) (hS : va_S A s.heap H locs) (hP : Pic H) (h : y = x) : W p l e R s m args below meth c H locs cells slots (MQ below (qm (some (.int y)) A Pic) args s cells slots A) (F0 m pc ls [.int x]) := by
  subst h
  exact W.zret hx hb hr hn (fun t ht _ => ⟨rfl, by rw [ht]; exact hP, hS.F ht⟩) hS.2.2 hdg hlk
theorem k_lretM {x y : Int64} (hx : p.tables.exec = Jvm.exec) (hb : c.code = cc) (hr : meth.sig.returnType = some .long) (hlk : meth.locks = false) (hdg : decode cc pc = .ok (.lreturn, 1)) (hS : va_S A s.heap H locs) (hP : Pic H) (h : y = x) : W p l e R s m args below meth c H locs cells slots (MQ below (qm (some (.long y)) A Pic) args s cells slots A) (F0 m pc ls [.long x]) := by
  subst h
  exact W.lret hx hb hr (fun t ht _ => ⟨rfl, by rw [ht]; exact hP, hS.F ht⟩) hS.2.2 hdg hlk
theorem k_dretM {x y : UInt64} (hx : p.tables.exec = Jvm.exec) (hb : c.code = cc) (hr : meth.sig.returnType = some .double) (hlk : meth.locks = false) (hdg : decode cc pc = .ok (.dreturn, 1)) (hS : va_S A s.heap H locs) (hP : Pic H) (h : y = x) : W p l e R s m args below meth c H locs cells slots (MQ below (qm (some (.double y)) A Pic) args s cells slots A) (F0 m pc ls [.double x]) := by
  subst h
  exact W.dret hx hb hr (fun t ht _ => ⟨rfl, by rw [ht]; exact hP, hS.F ht⟩) hS.2.2 hdg hlk
theorem k_vretM (hx : p.tables.exec = Jvm.exec) (hb : c.code = cc) (hr : meth.sig.returnType = none) (hlk : meth.locks = false) (hdg : decode cc pc = .ok (.return_, 1)) (hS : va_S A s.heap H locs) (hP : Pic H) : W p l e R s m args below meth c H locs cells slots (MQ below (qm none A Pic) args s cells slots A) (F0 m pc ls []) :=
  W.vret hx hb hr (fun t ht _ => ⟨rfl, by rw [ht]; exact hP, hS.F ht⟩) hS.2.2 hdg hlk
/-! branches over truth values and over small numbers -/
theorem b_eq {P : Prop} {off : Int} {tgt : Nat} (hx : p.tables.exec = Jvm.exec) (hb : c.code = cc) (hdg : decode cc pc = .ok (.ifCond .eq off, 3)) (ht : (pc : Int) + off = (tgt : Int)) (kt : ¬ P → W p l e R s m args below meth c H locs cells slots Q (F0 m tgt ls rest)) (kf : P → W p l e R s m args below meth c H locs cells slots Q (F0 m (pc + 3) ls rest)) : W p l e R s m args below meth c H locs cells slots Q (F0 m pc ls (.int (bI P) :: rest)) :=
  lv_if_eq hx hb hdg ht (fun h => kt (bI_0.mp h)) (fun h => kf (Classical.byContradiction fun q => h (bI_0.mpr q)))
theorem b_ne {P : Prop} {off : Int} {tgt : Nat} (hx : p.tables.exec = Jvm.exec) (hb : c.code = cc) (hdg : decode cc pc = .ok (.ifCond .ne off, 3)) (ht : (pc : Int) + off = (tgt : Int)) (kt : P → W p l e R s m args below meth c H locs cells slots Q (F0 m tgt ls rest)) (kf : ¬ P → W p l e R s m args below meth c H locs cells slots Q (F0 m (pc + 3) ls rest)) : W p l e R s m args below meth c H locs cells slots Q (F0 m pc ls (.int (bI P) :: rest)) :=
  lv_if_ne hx hb hdg ht (fun h => kt (Classical.byContradiction fun q => h (bI_0.mpr q))) (fun h => kf (bI_0.mp h))
theorem n_ilt {x y : Nat} {off : Int} {tgt : Nat} (hx : p.tables.exec = Jvm.exec) (hb : c.code = cc) (hdg : decode cc pc = .ok (.if_icmp .lt off, 3)) (ht : (pc : Int) + off = (tgt : Int)) (h1 : x < 2 ^ 31) (h2 : y < 2 ^ 31) (kt : x < y → W p l e R s m args below meth c H locs cells slots Q (F0 m tgt ls rest)) (kf : y ≤ x → W p l e R s m args below meth c H locs cells slots Q (F0 m (pc + 3) ls rest)) : W p l e R s m args below meth c H locs cells slots Q (F0 m pc ls (.int (nI y) :: .int (nI x) :: rest)) :=
  lv_icmp_lt hx hb hdg ht (fun h => kt ((nI_ltI h1 h2).mp h)) (fun h => kf (Nat.not_lt.mp fun q => h ((nI_ltI h1 h2).mpr q)))
theorem n_ige {x y : Nat} {off : Int} {tgt : Nat} (hx : p.tables.exec = Jvm.exec) (hb : c.code = cc) (hdg : decode cc pc = .ok (.if_icmp .ge off, 3)) (ht : (pc : Int) + off = (tgt : Int)) (h1 : x < 2 ^ 31) (h2 : y < 2 ^ 31) (kt : y ≤ x → W p l e R s m args below meth c H locs cells slots Q (F0 m tgt ls rest)) (kf : x < y → W p l e R s m args below meth c H locs cells slots Q (F0 m (pc + 3) ls rest)) : W p l e R s m args below meth c H locs cells slots Q (F0 m pc ls (.int (nI y) :: .int (nI x) :: rest)) :=
  lv_icmp_ge hx hb hdg ht (fun h => kt ((nI_leI h2 h1).mp h)) (fun h => kf (Nat.not_le.mp fun q => h ((nI_leI h2 h1).mpr q)))
theorem n_ile {x y : Nat} {off : Int} {tgt : Nat} (hx : p.tables.exec = Jvm.exec) (hb : c.code = cc) (hdg : decode cc pc = .ok (.if_icmp .le off, 3)) (ht : (pc : Int) + off = (tgt : Int)) (h1 : x < 2 ^ 31) (h2 : y < 2 ^ 31) (kt : x ≤ y → W p l e R s m args below meth c H locs cells slots Q (F0 m tgt ls rest)) (kf : y < x → W p l e R s m args below meth c H locs cells slots Q (F0 m (pc + 3) ls rest)) : W p l e R s m args below meth c H locs cells slots Q (F0 m pc ls (.int (nI y) :: .int (nI x) :: rest)) :=
  lv_icmp_le hx hb hdg ht (fun h => kt ((nI_leI h1 h2).mp h)) (fun h => kf (Nat.not_le.mp fun q => h ((nI_leI h1 h2).mpr q)))
theorem n_igt {x y : Nat} {off : Int} {tgt : Nat} (hx : p.tables.exec = Jvm.exec) (hb : c.code = cc) (hdg : decode cc pc = .ok (.if_icmp .gt off, 3)) (ht : (pc : Int) + off = (tgt : Int)) (h1 : x < 2 ^ 31) (h2 : y < 2 ^ 31) (kt : y < x → W p l e R s m args below meth c H locs cells slots Q (F0 m tgt ls rest)) (kf : x ≤ y → W p l e R s m args below meth c H locs cells slots Q (F0 m (pc + 3) ls rest)) : W p l e R s m args below meth c H locs cells slots Q (F0 m pc ls (.int (nI y) :: .int (nI x) :: rest)) :=
  lv_icmp_gt hx hb hdg ht (fun h => kt ((nI_ltI h2 h1).mp h)) (fun h => kf (Nat.not_lt.mp fun q => h ((nI_ltI h2 h1).mpr q)))
theorem n_ieq {x y : Nat} {off : Int} {tgt : Nat} (hx : p.tables.exec = Jvm.exec) (hb : c.code = cc) (hdg : decode cc pc = .ok (.if_icmp .eq off, 3)) (ht : (pc : Int) + off = (tgt : Int)) (h1 : x < 2 ^ 31) (h2 : y < 2 ^ 31) (kt : x = y → W p l e R s m args below meth c H locs cells slots Q (F0 m tgt ls rest)) (kf : ¬ x = y → W p l e R s m args below meth c H locs cells slots Q (F0 m (pc + 3) ls rest)) : W p l e R s m args below meth c H locs cells slots Q (F0 m pc ls (.int (nI y) :: .int (nI x) :: rest)) :=
  lv_icmp_eq hx hb hdg ht (fun h => kt ((nI_eq h1 h2).mp h)) (fun h => kf fun q => h ((nI_eq h1 h2).mpr q))
theorem n_ine {x y : Nat} {off : Int} {tgt : Nat} (hx : p.tables.exec = Jvm.exec) (hb : c.code = cc) (hdg : decode cc pc = .ok (.if_icmp .ne off, 3)) (ht : (pc : Int) + off = (tgt : Int)) (h1 : x < 2 ^ 31) (h2 : y < 2 ^ 31) (kt : ¬ x = y → W p l e R s m args below meth c H locs cells slots Q (F0 m tgt ls rest)) (kf : x = y → W p l e R s m args below meth c H locs cells slots Q (F0 m (pc + 3) ls rest)) : W p l e R s m args below meth c H locs cells slots Q (F0 m pc ls (.int (nI y) :: .int (nI x) :: rest)) :=
  lv_icmp_ne hx hb hdg ht (fun h => kt fun q => h ((nI_eq h1 h2).mpr q)) (fun h => kf ((nI_eq h1 h2).mp h))
end KE
