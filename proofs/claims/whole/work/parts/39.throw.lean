/-! ===== methods that throw; methods that catch ===== -/
def kx_S : List (Nat × String) := [(78, "no such reason"), (90, "no such setting"), (104, "the desk is full"), (120, "no such test"), (125, "the unit is not in stock"), (135, "the unit cannot go there"), (143, "the number of the day would be too high"), (158, "no claim can be made for the unit"), (170, "the buffer is full"), (187, "the buffer is not complete returns as a text"), (193, "the desk has no room for so many units"), (201, "there is no saved state"), (230, "no such property"), (251, "no such number"), (364, "no such unit"), (370, "no such product"), (376, "no such vendor"), (378, "a number is out of range")]
def kx_X : List String := ["java/lang/IndexOutOfBoundsException", "java/lang/IllegalArgumentException", "java/lang/IllegalStateException"]
def kx_D : List String := ["java/lang/RuntimeException", "java/lang/Exception", "java/lang/Throwable"]
def kxs (U : State) : Prop := (∀ q ∈ kx_S, ∃ sa, vk_R RX6 q.1 q.2 sa U) ∧ (∀ X ∈ kx_X, va_Nw (.castable X X) U) ∧ (∀ X ∈ kx_X, ∀ Y ∈ kx_X, X ≠ Y → va_Nc X Y U) ∧ ∀ Y ∈ kx_D, va_Nw (.declares (Bundle.initS Y)) U
def kxh (A : Nat → Prop) (U : State) (H : Heap) : Prop := vx_Zq Bundle.tN "UNASSIGNED_STACK" Bundle.steD A U H ∧ vx_Zq Bundle.tN "SUPPRESSED_SENTINEL" Bundle.listD A U H
theorem kxs_warm {s U : State} (hW : s.WarmedH U.vm) (h : kxs s) : kxs U := ⟨fun q hq => by
    obtain ⟨sa, k⟩ := h.1 q hq
    exact ⟨sa, vk_R.warm hW k⟩, fun X hX => va_Nw.warmC hW (h.2.1 X hX), fun X hX Y hY n => va_Nc.moved hW.alike (h.2.2.1 X hX Y hY n), fun Y hY => va_Nw.warmD hW (h.2.2.2 Y hY)⟩
theorem kxh_warm {A : Nat → Prop} {s U : State} {H : Heap} (hW : s.vm.Alike U.vm) (h : kxh A s H) : kxh A U H := ⟨vx_Zq.moved hW h.1, vx_Zq.moved hW h.2⟩
theorem kxh_kept {A : Nat → Prop} {U : State} {H H1 : Heap} (h : kxh A U H) (hq : ∀ a : Nat, a < H.size → ¬ A a → H1[a]? = H[a]?) : kxh A U H1 := ⟨h.1.kept hq, h.2.kept hq⟩
def kpx (E : ke_E) (A : Nat → Prop) (av : List Value) (Pic : Heap → Prop) : Array Value → State → Prop := fun v U => v = av.toArray ∧ ke E U ∧ (kxs U ∧ kxh A U U.heap) ∧ Pic U.heap
theorem kpx_blind {E : ke_E} {A : Nat → Prop} {av : List Value} {Pic : Heap → Prop} : FrameBlind (kpx E A av Pic) := fun _ U _ _ h => ⟨h.1, ke_warm (State.WarmedH.refl U) h.2.1, ⟨kxs_warm (State.WarmedH.refl U) h.2.2.1.1, kxh_warm (State.WarmedH.refl U).alike h.2.2.1.2⟩, h.2.2.2⟩
def xc (X : String) : String → State → State → Prop := fun E st t => E = X ∧ st.heap.size ≤ t.heap.size ∧ ∀ q : Nat, q < st.heap.size → t.heap[q]? = st.heap[q]?
def fls : Array Value → State → Outcome → State → Prop := fun _ _ _ _ => False
def tM (l : Launch) (y : MethodName) (ws : List Cond) (rm : Room) (E : ke_E) (A : Nat → Prop) (av : List Value) (Pic : Heap → Prop) (X : String) : Prop := vx_Met l y ws rm (kpx E A av Pic) fls (xc X) 1 6 nof
section TH
variable {p : Program} {l : Launch} {e : Env} {R : Room} {s : State} {m : MethodId} {args : Array Value} {below : List Frame} {meth : Method} {c : Code} {H : Heap} {locs : List Loc} {cells slots : Nat} {Q : State → Prop}
variable {cc : ByteArray} {pc nL : Nat} {ls : Array Slot} {rest st0 : List Value} {E : ke_E} {Ts : List Cond} {own : String} {A : Nat → Prop} {H0 : Heap} {a : Nat}
theorem t_hd {y : MethodName} {ws ws' : List Cond} {rm : Room} {av : List Value} {Pic : Heap → Prop} {X : String} {maxL : Nat} {ret : Option FieldType} (hy : plainName y.cls = true) (hw : ws = Cond.code y cc maxL ret :: ws') (hn : (lg_sl av).length ≤ maxL)
    (body : ∀ (p : Program) (e : Env) (s : State) (m : MethodId) (below : List Frame) (meth : Method) (c : Code) (ls : Array Slot), CallFix p m c cc maxL s av.toArray ws y.cls → meth.locks = false → (∀ x ∈ c.exceptionTable.toList, False) → ke E s → kxs s ∧ kxh A s s.heap → Pic s.heap → lv_has ls maxL (lv_args 0 av) →
      W p l e (headSpec ws rm).room s m av.toArray below meth c s.heap [] 0 0 (vx_MQ below fls (xc X) av.toArray s 1 6 nof) (F0 m 0 ls [])) : tM l y ws rm E A av Pic X := by
  refine vx_ofW (cc := cc) (maxL := maxL) (ret := ret) hy hw ?_
  intro p e s m args below meth c s₁ B hml hx hv
  obtain ⟨rfl, hK, hX, hP⟩ := hv
  have hts := atoms_spec (ws := ws) B.pre
  have hown : s.vm.findClass y.cls = some m.cls := findClass_of_methodNamed B.named
  rw [lg_entry_eq]
  exact body p e s m below meth c _ ⟨B.exec, B.bytes, hml, hown, hts⟩ B.notSynchronized hx hK hX hP (lv_entry av hn)
/-- a method with handlers, that ends as it should -/
theorem w_hd {y : MethodName} {ws ws' : List Cond} {rm : Room} {av : List Value} {Pic : Heap → Prop} {Qc : Array Value → State → Outcome → State → Prop} {mc ms : Nat} {free : Addr → Prop} {maxL : Nat} {ret : Option FieldType} {hh : List (Nat × Nat × Nat × Nat)} (hy : plainName y.cls = true) (hw : ws = Cond.codeWith y cc maxL ret hh :: ws') (hn : (lg_sl av).length ≤ maxL)
    (body : ∀ (p : Program) (e : Env) (s : State) (m : MethodId) (below : List Frame) (meth : Method) (c : Code) (ls : Array Slot), CallFix p m c cc maxL s av.toArray ws y.cls → meth.sig.returnType = ret → meth.locks = false → c.exceptionTable.toList = tableOf hh → ke E s → kxs s ∧ kxh A s s.heap → Pic s.heap → lv_has ls maxL (lv_args 0 av) →
      W p l e (headSpec ws rm).room s m av.toArray below meth c s.heap [] 0 0 (MQ below Qc av.toArray s mc ms free) (F0 m 0 ls [])) : Met l y ws rm (kpx E A av Pic) Qc mc ms free := by
  refine MetFree.of_bodyS (code := cc) (maxLocals := maxL) (ret := ret) hy ?_ ?_
  · intro args s m h hn
    obtain ⟨m9, meth, c, hn9, h1, h2, h3, h4, -, h5, h6, -⟩ := Cond.codeWith_spec (atoms_spec (ws := ws) h _ (by rw [hw]; exact List.mem_cons_self))
    cases hn.symm.trans hn9
    exact ⟨meth, c, h1, h2, h3, h4, h5, h6⟩
  · intro p e s m args below meth c s₁ B hml hv _
    obtain ⟨rfl, hK, hX, hP⟩ := hv
    have hh0 : s₁.heap = s.heap := by rw [B.state]; rfl
    have hts := atoms_spec (ws := ws) B.pre
    have hown : s.vm.findClass y.cls = some m.cls := findClass_of_methodNamed B.named
    have htb := vx_table (x := y) B (hts _ (by rw [hw]; exact List.mem_cons_self))
    have k := body p e s m below meth c _ ⟨B.exec, B.bytes, hml, hown, hts⟩ B.returns B.notSynchronized htb hK hX hP (lv_entry av hn)
    obtain ⟨t, a1, o, b1, b2, b3⟩ := k s₁ hh0 (Stand.of_body B)
    rw [lg_entry_eq]
    exact ⟨t, o, a1, b1, b2, b3⟩
theorem t_n0 : ∀ w ∈ (vx_atS RX6 80 "java/lang/IndexOutOfBoundsException" ["java/lang/RuntimeException", "java/lang/Exception"]).filter (fun w => !goodWord w), w ∈ ([.castable "java/lang/IndexOutOfBoundsException" "java/lang/IndexOutOfBoundsException", .declares (Bundle.initS "java/lang/RuntimeException"), .declares (Bundle.initS "java/lang/Exception"), .declares (Bundle.initS "java/lang/Throwable")] : List Cond) := by decide +kernel
theorem t_g0 : ∀ w ∈ Cond.classLink RX6 76 "java/lang/IndexOutOfBoundsException" :: Cond.initialized "java/lang/IndexOutOfBoundsException" :: vx_atS RX6 80 "java/lang/IndexOutOfBoundsException" ["java/lang/RuntimeException", "java/lang/Exception"], vx_ot w = true := by decide +kernel
theorem t_thS0 {is : Nat} {text : String} (hlS : l.stackTraces = false) (S : CallFix p m c cc nL s args Ts RX6) (hX : kxs s ∧ kxh A s s.heap) (hq : (is, text) ∈ kx_S) (hk : Cond.classLink RX6 76 "java/lang/IndexOutOfBoundsException" ∈ Ts) (hi : Cond.initialized "java/lang/IndexOutOfBoundsException" ∈ Ts) (hat : ∀ w ∈ (vx_atS RX6 80 "java/lang/IndexOutOfBoundsException" ["java/lang/RuntimeException", "java/lang/Exception"]).filter goodWord, w ∈ Ts) (hsz : ls.size = nL) (hlk : meth.locks = false) (hout : ∀ x ∈ c.exceptionTable.toList, False)
    (d0 : decode cc pc = .ok (.new 76, 3)) (d3 : decode cc (pc + 3) = .ok (.dup, 1)) (d4 : decode cc (pc + 4) = .ok (.ldc is, 2)) (d6 : decode cc (pc + 6) = .ok (.invokespecial 80, 3)) (d9 : decode cc (pc + 9) = .ok (.athrow, 1)) (hR : 6 ≤ R.frames ∧ (rest.map fun v => v.category).sum + 82 ≤ R.locals ∧ 1 ≤ R.cells ∧ 6 ≤ R.slots) :
    W p l e R s m args below meth c s.heap [] 0 0 (vx_MQ below fls (xc "java/lang/IndexOutOfBoundsException") args s 1 6 nof) (F0 m pc ls rest) := by
  obtain ⟨sa, hst⟩ := hX.1.1 _ hq
  have hca : (Cond.castable "java/lang/IndexOutOfBoundsException" "java/lang/IndexOutOfBoundsException").before args s = true := va_Nw.use rfl (hX.1.2.1 _ (by decide))
  have hde : ∀ Y ∈ kx_D, (Cond.declares (Bundle.initS Y)).before args s = true := fun Y hY => va_Nw.use rfl (hX.1.2.2.2 Y hY)
  exact vx_throwS S.1 S.2.1 hlS (A := A) (names := ["java/lang/RuntimeException", "java/lang/Exception"]) S.2.2.2.1 (by decide +kernel) (by decide +kernel) (S.2.2.2.2 _ hk) (S.2.2.2.2 _ hi) hst (vx_hat (fun w hw => S.2.2.2.2 _ (hat w hw)) t_n0 (vx_c hca (vx_c (hde _ (by decide)) (vx_c (hde _ (by decide)) (vx_c (hde _ (by decide)) vx_n))))) t_g0 hX.2.1 hX.2.2 va_S.rf (hsz.trans S.2.2.1.symm) d0 d3 d4 d6 d9 (fun x hx => (hout x hx).elim) hR.1 hR.2.1 hR.2.2.1 hR.2.2.2 hlk (fun t _ h1 h2 => ⟨rfl, h1, h2⟩) (fun _ h => nomatch h) (Nat.le_refl _) (Nat.le_refl _)
theorem t_thW0 {is : Nat} {text : String} (hlS : l.stackTraces = false) (S : CallFix p m c cc nL s args Ts RX6) (hX : kxs s ∧ kxh A s s.heap) (hq : (is, text) ∈ kx_S) (hk : Cond.classLink RX6 76 "java/lang/IndexOutOfBoundsException" ∈ Ts) (hi : Cond.initialized "java/lang/IndexOutOfBoundsException" ∈ Ts) (hat : ∀ w ∈ (vx_atS RX6 80 "java/lang/IndexOutOfBoundsException" ["java/lang/RuntimeException", "java/lang/Exception"]).filter goodWord, w ∈ Ts) (hsz : ls.size = nL) (hlk : meth.locks = false) (hout : ∀ x ∈ c.exceptionTable.toList, False)
    (d0 : decode cc pc = .ok (.new 76, 3)) (d3 : decode cc (pc + 3) = .ok (.dup, 1)) (d4 : decode cc (pc + 4) = .ok (.ldc_w is, 3)) (d6 : decode cc (pc + 7) = .ok (.invokespecial 80, 3)) (d9 : decode cc (pc + 10) = .ok (.athrow, 1)) (hR : 6 ≤ R.frames ∧ (rest.map fun v => v.category).sum + 82 ≤ R.locals ∧ 1 ≤ R.cells ∧ 6 ≤ R.slots) :
    W p l e R s m args below meth c s.heap [] 0 0 (vx_MQ below fls (xc "java/lang/IndexOutOfBoundsException") args s 1 6 nof) (F0 m pc ls rest) := by
  obtain ⟨sa, hst⟩ := hX.1.1 _ hq
  have hca : (Cond.castable "java/lang/IndexOutOfBoundsException" "java/lang/IndexOutOfBoundsException").before args s = true := va_Nw.use rfl (hX.1.2.1 _ (by decide))
  have hde : ∀ Y ∈ kx_D, (Cond.declares (Bundle.initS Y)).before args s = true := fun Y hY => va_Nw.use rfl (hX.1.2.2.2 Y hY)
  exact vx_throwSW S.1 S.2.1 hlS (A := A) (names := ["java/lang/RuntimeException", "java/lang/Exception"]) S.2.2.2.1 (by decide +kernel) (by decide +kernel) (S.2.2.2.2 _ hk) (S.2.2.2.2 _ hi) hst (vx_hat (fun w hw => S.2.2.2.2 _ (hat w hw)) t_n0 (vx_c hca (vx_c (hde _ (by decide)) (vx_c (hde _ (by decide)) (vx_c (hde _ (by decide)) vx_n))))) t_g0 hX.2.1 hX.2.2 va_S.rf (hsz.trans S.2.2.1.symm) d0 d3 d4 d6 d9 (fun x hx => (hout x hx).elim) hR.1 hR.2.1 hR.2.2.1 hR.2.2.2 hlk (fun t _ h1 h2 => ⟨rfl, h1, h2⟩) (fun _ h => nomatch h) (Nat.le_refl _) (Nat.le_refl _)
theorem t_n1 : ∀ w ∈ (vx_atS RX6 189 "java/lang/IllegalArgumentException" ["java/lang/RuntimeException", "java/lang/Exception"]).filter (fun w => !goodWord w), w ∈ ([.castable "java/lang/IllegalArgumentException" "java/lang/IllegalArgumentException", .declares (Bundle.initS "java/lang/RuntimeException"), .declares (Bundle.initS "java/lang/Exception"), .declares (Bundle.initS "java/lang/Throwable")] : List Cond) := by decide +kernel
theorem t_g1 : ∀ w ∈ Cond.classLink RX6 185 "java/lang/IllegalArgumentException" :: Cond.initialized "java/lang/IllegalArgumentException" :: vx_atS RX6 189 "java/lang/IllegalArgumentException" ["java/lang/RuntimeException", "java/lang/Exception"], vx_ot w = true := by decide +kernel
theorem t_thS1 {is : Nat} {text : String} (hlS : l.stackTraces = false) (S : CallFix p m c cc nL s args Ts RX6) (hX : kxs s ∧ kxh A s s.heap) (hq : (is, text) ∈ kx_S) (hk : Cond.classLink RX6 185 "java/lang/IllegalArgumentException" ∈ Ts) (hi : Cond.initialized "java/lang/IllegalArgumentException" ∈ Ts) (hat : ∀ w ∈ (vx_atS RX6 189 "java/lang/IllegalArgumentException" ["java/lang/RuntimeException", "java/lang/Exception"]).filter goodWord, w ∈ Ts) (hsz : ls.size = nL) (hlk : meth.locks = false) (hout : ∀ x ∈ c.exceptionTable.toList, False)
    (d0 : decode cc pc = .ok (.new 185, 3)) (d3 : decode cc (pc + 3) = .ok (.dup, 1)) (d4 : decode cc (pc + 4) = .ok (.ldc is, 2)) (d6 : decode cc (pc + 6) = .ok (.invokespecial 189, 3)) (d9 : decode cc (pc + 9) = .ok (.athrow, 1)) (hR : 6 ≤ R.frames ∧ (rest.map fun v => v.category).sum + 82 ≤ R.locals ∧ 1 ≤ R.cells ∧ 6 ≤ R.slots) :
    W p l e R s m args below meth c s.heap [] 0 0 (vx_MQ below fls (xc "java/lang/IllegalArgumentException") args s 1 6 nof) (F0 m pc ls rest) := by
  obtain ⟨sa, hst⟩ := hX.1.1 _ hq
  have hca : (Cond.castable "java/lang/IllegalArgumentException" "java/lang/IllegalArgumentException").before args s = true := va_Nw.use rfl (hX.1.2.1 _ (by decide))
  have hde : ∀ Y ∈ kx_D, (Cond.declares (Bundle.initS Y)).before args s = true := fun Y hY => va_Nw.use rfl (hX.1.2.2.2 Y hY)
  exact vx_throwS S.1 S.2.1 hlS (A := A) (names := ["java/lang/RuntimeException", "java/lang/Exception"]) S.2.2.2.1 (by decide +kernel) (by decide +kernel) (S.2.2.2.2 _ hk) (S.2.2.2.2 _ hi) hst (vx_hat (fun w hw => S.2.2.2.2 _ (hat w hw)) t_n1 (vx_c hca (vx_c (hde _ (by decide)) (vx_c (hde _ (by decide)) (vx_c (hde _ (by decide)) vx_n))))) t_g1 hX.2.1 hX.2.2 va_S.rf (hsz.trans S.2.2.1.symm) d0 d3 d4 d6 d9 (fun x hx => (hout x hx).elim) hR.1 hR.2.1 hR.2.2.1 hR.2.2.2 hlk (fun t _ h1 h2 => ⟨rfl, h1, h2⟩) (fun _ h => nomatch h) (Nat.le_refl _) (Nat.le_refl _)
theorem t_thW1 {is : Nat} {text : String} (hlS : l.stackTraces = false) (S : CallFix p m c cc nL s args Ts RX6) (hX : kxs s ∧ kxh A s s.heap) (hq : (is, text) ∈ kx_S) (hk : Cond.classLink RX6 185 "java/lang/IllegalArgumentException" ∈ Ts) (hi : Cond.initialized "java/lang/IllegalArgumentException" ∈ Ts) (hat : ∀ w ∈ (vx_atS RX6 189 "java/lang/IllegalArgumentException" ["java/lang/RuntimeException", "java/lang/Exception"]).filter goodWord, w ∈ Ts) (hsz : ls.size = nL) (hlk : meth.locks = false) (hout : ∀ x ∈ c.exceptionTable.toList, False)
    (d0 : decode cc pc = .ok (.new 185, 3)) (d3 : decode cc (pc + 3) = .ok (.dup, 1)) (d4 : decode cc (pc + 4) = .ok (.ldc_w is, 3)) (d6 : decode cc (pc + 7) = .ok (.invokespecial 189, 3)) (d9 : decode cc (pc + 10) = .ok (.athrow, 1)) (hR : 6 ≤ R.frames ∧ (rest.map fun v => v.category).sum + 82 ≤ R.locals ∧ 1 ≤ R.cells ∧ 6 ≤ R.slots) :
    W p l e R s m args below meth c s.heap [] 0 0 (vx_MQ below fls (xc "java/lang/IllegalArgumentException") args s 1 6 nof) (F0 m pc ls rest) := by
  obtain ⟨sa, hst⟩ := hX.1.1 _ hq
  have hca : (Cond.castable "java/lang/IllegalArgumentException" "java/lang/IllegalArgumentException").before args s = true := va_Nw.use rfl (hX.1.2.1 _ (by decide))
  have hde : ∀ Y ∈ kx_D, (Cond.declares (Bundle.initS Y)).before args s = true := fun Y hY => va_Nw.use rfl (hX.1.2.2.2 Y hY)
  exact vx_throwSW S.1 S.2.1 hlS (A := A) (names := ["java/lang/RuntimeException", "java/lang/Exception"]) S.2.2.2.1 (by decide +kernel) (by decide +kernel) (S.2.2.2.2 _ hk) (S.2.2.2.2 _ hi) hst (vx_hat (fun w hw => S.2.2.2.2 _ (hat w hw)) t_n1 (vx_c hca (vx_c (hde _ (by decide)) (vx_c (hde _ (by decide)) (vx_c (hde _ (by decide)) vx_n))))) t_g1 hX.2.1 hX.2.2 va_S.rf (hsz.trans S.2.2.1.symm) d0 d3 d4 d6 d9 (fun x hx => (hout x hx).elim) hR.1 hR.2.1 hR.2.2.1 hR.2.2.2 hlk (fun t _ h1 h2 => ⟨rfl, h1, h2⟩) (fun _ h => nomatch h) (Nat.le_refl _) (Nat.le_refl _)
theorem t_n2 : ∀ w ∈ (vx_atS RX6 106 "java/lang/IllegalStateException" ["java/lang/RuntimeException", "java/lang/Exception"]).filter (fun w => !goodWord w), w ∈ ([.castable "java/lang/IllegalStateException" "java/lang/IllegalStateException", .declares (Bundle.initS "java/lang/RuntimeException"), .declares (Bundle.initS "java/lang/Exception"), .declares (Bundle.initS "java/lang/Throwable")] : List Cond) := by decide +kernel
theorem t_g2 : ∀ w ∈ Cond.classLink RX6 102 "java/lang/IllegalStateException" :: Cond.initialized "java/lang/IllegalStateException" :: vx_atS RX6 106 "java/lang/IllegalStateException" ["java/lang/RuntimeException", "java/lang/Exception"], vx_ot w = true := by decide +kernel
theorem t_thS2 {is : Nat} {text : String} (hlS : l.stackTraces = false) (S : CallFix p m c cc nL s args Ts RX6) (hX : kxs s ∧ kxh A s s.heap) (hq : (is, text) ∈ kx_S) (hk : Cond.classLink RX6 102 "java/lang/IllegalStateException" ∈ Ts) (hi : Cond.initialized "java/lang/IllegalStateException" ∈ Ts) (hat : ∀ w ∈ (vx_atS RX6 106 "java/lang/IllegalStateException" ["java/lang/RuntimeException", "java/lang/Exception"]).filter goodWord, w ∈ Ts) (hsz : ls.size = nL) (hlk : meth.locks = false) (hout : ∀ x ∈ c.exceptionTable.toList, False)
    (d0 : decode cc pc = .ok (.new 102, 3)) (d3 : decode cc (pc + 3) = .ok (.dup, 1)) (d4 : decode cc (pc + 4) = .ok (.ldc is, 2)) (d6 : decode cc (pc + 6) = .ok (.invokespecial 106, 3)) (d9 : decode cc (pc + 9) = .ok (.athrow, 1)) (hR : 6 ≤ R.frames ∧ (rest.map fun v => v.category).sum + 82 ≤ R.locals ∧ 1 ≤ R.cells ∧ 6 ≤ R.slots) :
    W p l e R s m args below meth c s.heap [] 0 0 (vx_MQ below fls (xc "java/lang/IllegalStateException") args s 1 6 nof) (F0 m pc ls rest) := by
  obtain ⟨sa, hst⟩ := hX.1.1 _ hq
  have hca : (Cond.castable "java/lang/IllegalStateException" "java/lang/IllegalStateException").before args s = true := va_Nw.use rfl (hX.1.2.1 _ (by decide))
  have hde : ∀ Y ∈ kx_D, (Cond.declares (Bundle.initS Y)).before args s = true := fun Y hY => va_Nw.use rfl (hX.1.2.2.2 Y hY)
  exact vx_throwS S.1 S.2.1 hlS (A := A) (names := ["java/lang/RuntimeException", "java/lang/Exception"]) S.2.2.2.1 (by decide +kernel) (by decide +kernel) (S.2.2.2.2 _ hk) (S.2.2.2.2 _ hi) hst (vx_hat (fun w hw => S.2.2.2.2 _ (hat w hw)) t_n2 (vx_c hca (vx_c (hde _ (by decide)) (vx_c (hde _ (by decide)) (vx_c (hde _ (by decide)) vx_n))))) t_g2 hX.2.1 hX.2.2 va_S.rf (hsz.trans S.2.2.1.symm) d0 d3 d4 d6 d9 (fun x hx => (hout x hx).elim) hR.1 hR.2.1 hR.2.2.1 hR.2.2.2 hlk (fun t _ h1 h2 => ⟨rfl, h1, h2⟩) (fun _ h => nomatch h) (Nat.le_refl _) (Nat.le_refl _)
variable {y : MethodName} {bytes : ByteArray} {maxL index n : Nat} {ret : Option FieldType} {ws ws' : List Cond} {rm : Room} {C : String} {b : Nat} {As : List Value} {Pic : Heap → Prop} {X : String}
theorem t_end (hX9 : vx_Run p l e R s m args below meth c s.heap [] 0 0 1 6 (F0 m pc ls st0) rest (fls args) (xc X) nof) (hout : ∀ x ∈ c.exceptionTable.toList, False) (hlk : meth.locks = false) :
    W p l e R s m args below meth c s.heap [] 0 0 (vx_MQ below fls (xc X) args s 1 6 nof) (F0 m pc ls st0) := by
  intro T hT Y
  rcases hX9 T hT Y with ⟨v, st₀, t, T', L, h0, X', hL, e1, e2, hfa, st⟩ | ⟨q, st₀, t, T', L, En, ce, h0, X', hL, e1, e2, ⟨hn, hz, hk⟩, hce, hcv, hcl, st⟩
  · exact absurd hfa (fun h => h)
  · subst hn
    rw [h0] at hz hk
    have k := vx_out (p := p) (l := l) (e := e) (R := R) (s := s) (m := m) (args := args) (below := below) (meth := meth) (c := c) (Qc := fls) (XC := xc En) (free := nof) (rest := rest) (ls := ls) (pc := pc) (H := T'.heap) (locs := [] ++ L) (cells := 0 + 1) (slots := 0 + 6) (mc := 1) (ms := 6) (E := En) (ce := ce) (q := q) (fun x hx => (hout x hx).elim) hlk (by rw [e1]; exact hce) hcv hcl
      (fun t9 h9 _ => ⟨rfl, by rw [h9, e1]; exact hz, fun a ha => by rw [h9, e1]; exact hk a ha⟩) (fun z hz => hL z hz) (Nat.le_refl _) (Nat.le_refl _)
    obtain ⟨t2, a1, b1⟩ := k T' rfl X'
    exact ⟨t2, st.trans a1, b1⟩
/-- a callee throws, and it is not caught here -/
theorem t_V (S : CallFix p m c cc nL s args Ts own) (hK : ke E s) (hX : kxs s ∧ kxh A s s.heap) (hM : tM l y ws rm E A (.ref b :: As) Pic X) (hG : GoodIn Ts (wsV own index C y ws)) (hw : ws = Cond.code y bytes maxL ret :: ws') (hd : k_hd1 y C n) (hrm : rm.cells = 1 ∧ rm.slots = 6) (hR : rm.frames + 1 ≤ R.frames ∧ 8 + (maxL + 11) + rm.locals ≤ R.locals)
    (hrec : ∃ cell : Cell, s.heap[b]? = some cell ∧ cell.vm.isStatics = false ∧ s.vm.findClass C = some cell.cls) (hPic : Pic s.heap) (hlen : As.length = n) (hsz : ls.size = nL) (hst : st0 = As.reverse ++ .ref b :: rest) (hW : (rest.map fun v => v.category).sum ≤ 8) (hdg : decode cc pc = .ok (.invokevirtual index, 3)) (hcs : 0 + 1 ≤ R.cells ∧ 0 + 6 ≤ R.slots) (hout : ∀ x ∈ c.exceptionTable.toList, False) (hlk : meth.locks = false) :
    W p l e R s m args below meth c s.heap [] 0 0 (vx_MQ below fls (xc X) args s 1 6 nof) (F0 m pc ls st0) :=
  t_end (vx_runV (As := As) (rest := rest) S hM (cwV n S.2.2.2.2 hG hw hrm.1 hrm.2 hd hR) ⟨kpx_blind, hrec, fun U hU hW => ⟨rfl, ke_warm hW hK, ⟨kxs_warm hW hX.1, kxh_warm hW.alike (by rw [hU]; exact hX.2)⟩, by rw [hU]; exact hPic⟩⟩ rfl hlen hsz hst (lv_room hW) hdg hcs) hout hlk
theorem t_S (S : CallFix p m c cc nL s args Ts own) (hK : ke E s) (hX : kxs s ∧ kxh A s s.heap) (hM : tM l y ws rm E A As Pic X) (hG : GoodIn Ts (va_wsS own index y ws)) (hw : ws = Cond.code y bytes maxL ret :: ws') (hd : k_hd1 y C n) (hrm : rm.cells = 1 ∧ rm.slots = 6) (hR : rm.frames + 1 ≤ R.frames ∧ 8 + (maxL + 11) + rm.locals ≤ R.locals)
    (hPic : Pic s.heap) (hlen : As.length = n) (hsz : ls.size = nL) (hst : st0 = As.reverse ++ rest) (hW : (rest.map fun v => v.category).sum ≤ 8) (hdg : decode cc pc = .ok (.invokestatic index, 3)) (hcs : 0 + 1 ≤ R.cells ∧ 0 + 6 ≤ R.slots) (hout : ∀ x ∈ c.exceptionTable.toList, False) (hlk : meth.locks = false) :
    W p l e R s m args below meth c s.heap [] 0 0 (vx_MQ below fls (xc X) args s 1 6 nof) (F0 m pc ls st0) :=
  t_end (vx_runS (As := As) (rest := rest) S hM (va_cwS n S.2.2.2.2 hG hw hrm.1 hrm.2 hd.2 hR) ⟨kpx_blind, fun U hU hW => ⟨rfl, ke_warm hW hK, ⟨kxs_warm hW hX.1, kxh_warm hW.alike (by rw [hU]; exact hX.2)⟩, by rw [hU]; exact hPic⟩⟩ rfl hlen hsz hst (lv_room hW) hdg hcs) hout hlk
/-- a callee throws, and a handler here catches it -/
theorem w_V {hd9 : Nat} {A2 : Nat → Prop} {pre suf : List ExceptionTableEntry} {x : ExceptionTableEntry} (S : CallFix p m c cc nL s args Ts own) (hK : ke E s) (hX : kxs s ∧ kxh A s s.heap) (hM : tM l y ws rm E A (.ref b :: As) Pic X) (hG : GoodIn Ts (wsV own index C y ws)) (hw : ws = Cond.code y bytes maxL ret :: ws') (hd : k_hd1 y C n) (hrm : rm.cells = 1 ∧ rm.slots = 6) (hR : rm.frames + 1 ≤ R.frames ∧ 8 + (maxL + 11) + rm.locals ≤ R.locals)
    (hrec : ∃ cell : Cell, s.heap[b]? = some cell ∧ cell.vm.isStatics = false ∧ s.vm.findClass C = some cell.cls) (hPic : Pic s.heap) (hlen : As.length = n) (hsz : ls.size = nL) (hst : st0 = As.reverse ++ .ref b :: rest) (hW : (rest.map fun v => v.category).sum ≤ 8) (hdg : decode cc pc = .ok (.invokevirtual index, 3)) (hcs : 0 + 1 ≤ R.cells ∧ 0 + 6 ≤ R.slots)
    (hXX : X ∈ kx_X) (hsplit : c.exceptionTable.toList = pre ++ x :: suf) (hpass : ∀ z ∈ pre, z.catchType ≠ 0 ∧ ∃ nm : String, Cond.classLink own z.catchType nm ∈ Ts ∧ nm ∈ kx_X ∧ X ≠ nm) (hcov : covers x pc = true) (h0 : x.catchType ≠ 0) (hlink : Cond.classLink own x.catchType X ∈ Ts) (hpc : x.handlerPc = hd9)
    (kk : ∀ (q : Nat) (H1 : Heap) (locs1 : List Loc), s.heap.size ≤ H1.size → (∀ a : Nat, a < s.heap.size → H1[a]? = s.heap[a]?) → va_S A2 s.heap H1 locs1 → W p l e R s m args below meth c H1 locs1 1 6 Q (F0 m hd9 ls [.ref q])) :
    W p l e R s m args below meth c s.heap [] 0 0 Q (F0 m pc ls st0) := by
  have hr := vx_runV (p := p) (l := l) (e := e) (below := below) (meth := meth) (H := s.heap) (locs := []) (cells := 0) (slots := 0) (g := F0 m pc ls st0) (As := As) (rest := rest) S hM (cwV n S.2.2.2.2 hG hw hrm.1 hrm.2 hd hR) ⟨kpx_blind, hrec, fun U hU hW => ⟨rfl, ke_warm hW hK, ⟨kxs_warm hW hX.1, kxh_warm hW.alike (by rw [hU]; exact hX.2)⟩, by rw [hU]; exact hPic⟩⟩ rfl hlen hsz hst (lv_room hW) hdg hcs
  intro T hT Y
  rcases hr T hT Y with ⟨v, st₀, t, T', L, g0, X', hL, e1, e2, hfa, st⟩ | ⟨q, st₀, t, T', L, En, ce, g0, X', hL, e1, e2, ⟨hn, hz, hk⟩, hce, hcv, hcl, st⟩
  · exact absurd hfa (fun h => h)
  · subst hn
    rw [g0] at hz hk
    have k := vx_catch (p := p) (l := l) (e := e) (R := R) (s := s) (m := m) (args := args) (below := below) (meth := meth) (c := c) (Q := Q) (rest := rest) (ls := ls) (pc := pc) (H := T'.heap) (locs := [] ++ L) (cells := 0 + 1) (slots := 0 + 6) (E := En) (ce := ce) (q := q) S.2.2.2.1 pre x suf hsplit
      (fun z hz9 => by
        obtain ⟨f1, nm, f2, f3, f4⟩ := hpass z hz9
        exact Or.inr ⟨f1, nm, S.2.2.2.2 _ f2, hX.1.2.2.1 _ hXX _ f3 f4⟩) hcov h0 (S.2.2.2.2 _ hlink) (va_Nw.use rfl (hX.1.2.1 _ hXX)) (by rw [e1]; exact hce) hcv hcl
      (by rw [hpc]
          exact kk q T'.heap ([] ++ L) (by rw [e1]; exact hz) (fun a ha => by rw [e1]; exact hk a ha) ⟨by rw [e1]; exact hz, fun a ha _ => by rw [e1]; exact hk a ha, fun z hz9 => (hL z (by simpa using hz9)).elim⟩)
    obtain ⟨t2, a1, b1⟩ := k T' rfl X'
    exact ⟨t2, st.trans a1, b1⟩
/-- a long put into an array of longs -/
theorem k_last {n0 i : Nat} {f : Nat → Int64} {x : Int64} (hx : p.tables.exec = Jvm.exec) (hb : c.code = cc) (hK : ke E s) (hat : va_at E.1 vwCl (a, .inl (E.2 5, n0, .inr (.inl f))) H) (hi : i < n0) (hn : n0 < 2 ^ 31) (hS : va_S A H0 H locs) (hA : A a) (hdg : decode cc pc = .ok (.lastore, 1))
    (kk : ∀ (H1 : Heap) (locs1 : List Loc), va_at E.1 vwCl (a, .inl (E.2 5, n0, .inr (.inl (fun j => if j = i then x else f j)))) H1 → H1.size = H.size → (∀ q : Nat, q ≠ a → H1[q]? = H[q]?) → va_S A H0 H1 locs1 → W p l e R s m args below meth c H1 locs1 cells slots Q (F0 m (pc + 1) ls rest)) : W p l e R s m args below meth c H locs cells slots Q (F0 m pc ls (.long x :: .int (nI i) :: .ref a :: rest)) := by
  have hin := vp_in_nI hi hn
  have hck := nI_clamp (n := i) (by omega)
  refine W.last hx hb hat ((hK.1.2 5 _ rfl).1 n0 (fun j => .long (f j))) (fun q => by cases q) (by show ¬ (nI i < 0 ∨ (arrV _ _ _).slots.size ≤ _); rw [arrV_size]; exact hin) rfl rfl hdg fun H1 e z oq => ?_
  refine kk H1 _ ?_ z oq (hS.put z oq hA)
  show H1[a]? = some (vp_cell _ _)
  rw [e]
  rw [vp_cell_l, vp_cell_l, arrV_store]
  congr 2
  funext q
  rw [hck]
  by_cases hq : q = i
  · subst hq
    simp [updV]
  · simp [updV, hq]
theorem la_arr {cA : ClassId} {n0 : Nat} {f g : Nat → Int64} (h : ∀ q, q < n0 → g q = f q) : vp_cell cA (n0, .inr (.inl f)) = vp_cell cA (n0, .inr (.inl g)) := by
  rw [vp_cell_l, vp_cell_l]
  unfold arrV
  congr 1
  apply Array.ext
  · simp
  · intro i h1 h2
    have hi : i < n0 := by simpa using h1
    simp [h i hi]
/-- the row that takes the answer -/
def la (E : ke_E) (a : Nat) (x : Int64) (H : Heap) : Prop := va_at E.1 vwCl (a, .inl (E.2 5, 1, .inr (.inl (fun _ => x)))) H
theorem la_fr2 {x : Int64} {H1 : Heap} (h : la E a x H) (hq : ∀ q : Nat, q < H.size → bl a 1 q → H1[q]? = H[q]?) : la E a x H1 := va_at.kept h (hq _ (va_at.lt h) ⟨by simp, by simp⟩)
theorem la_ast {x y9 : Int64} (hx : p.tables.exec = Jvm.exec) (hb : c.code = cc) (hK : ke E s) (hat : la E a x H) (hS : va_S A H0 H locs) (hA : A a) (hdg : decode cc pc = .ok (.lastore, 1))
    (kk : ∀ (H1 : Heap) (locs1 : List Loc), la E a y9 H1 → H1.size = H.size → (∀ q : Nat, ¬ bl a 1 q → H1[q]? = H[q]?) → va_S A H0 H1 locs1 → W p l e R s m args below meth c H1 locs1 cells slots Q (F0 m (pc + 1) ls rest)) : W p l e R s m args below meth c H locs cells slots Q (F0 m pc ls (.long y9 :: .int (nI 0) :: .ref a :: rest)) := by
  refine k_last hx hb hK hat (i := 0) (by decide) (by decide) hS hA hdg fun H1 locs1 e0 e1 e2 e3 => ?_
  refine kk H1 locs1 ?_ e1 (fun q hq => e2 q (fun h => hq (by subst h; exact ⟨by omega, by omega⟩))) e3
  show H1[a]? = some (vp_cell _ _)
  refine Eq.trans (show H1[a]? = some (vp_cell _ _) from e0) (congrArg some (la_arr fun q hq => ?_))
  rw [show q = 0 by omega]
  rfl
end TH
def ow (o w : Nat) : Nat → Prop := fun q => bl o 477 q ∨ bl w 1 q
