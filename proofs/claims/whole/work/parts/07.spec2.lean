/-! ===== more words: routes, the workshop's order, claims ===== -/
theorem nI_nm1 {j : Nat} (h : j < 2 ^ 31) : ¬ nI j = -1 := by
  intro q
  have a := nI_toInt h
  rw [q] at a
  have b : (-1 : Int32).toInt = -1 := by decide
  omega
theorem bI_00 {P : Prop} : bI P = nI 0 ↔ ¬ P := by rw [nI_0]; exact bI_0
section BB
variable {p : Program} {l : Launch} {e : Env} {R : Room} {s : State} {m : MethodId} {args : Array Value} {below : List Frame} {meth : Method} {c : Code} {H : Heap} {locs : List Loc} {cells slots : Nat} {Q : State → Prop} {pc : Nat} {ls : Array Slot} {rest : List Value} {cc : ByteArray}
theorem b_ieq1 {P : Prop} {off : Int} {tgt : Nat} (hx : p.tables.exec = Jvm.exec) (hb : c.code = cc) (hdg : decode cc pc = .ok (.if_icmp .eq off, 3)) (ht : (pc : Int) + off = (tgt : Int)) (kt : P → W p l e R s m args below meth c H locs cells slots Q (F0 m tgt ls rest)) (kf : ¬ P → W p l e R s m args below meth c H locs cells slots Q (F0 m (pc + 3) ls rest)) : W p l e R s m args below meth c H locs cells slots Q (F0 m pc ls (.int (nI 1) :: .int (bI P) :: rest)) :=
  lv_icmp_eq hx hb hdg ht (fun h => kt (bI_1.mp h)) (fun h => kf fun q => h (bI_1.mpr q))
theorem b_ieq0 {P : Prop} {off : Int} {tgt : Nat} (hx : p.tables.exec = Jvm.exec) (hb : c.code = cc) (hdg : decode cc pc = .ok (.if_icmp .eq off, 3)) (ht : (pc : Int) + off = (tgt : Int)) (kt : ¬ P → W p l e R s m args below meth c H locs cells slots Q (F0 m tgt ls rest)) (kf : P → W p l e R s m args below meth c H locs cells slots Q (F0 m (pc + 3) ls rest)) : W p l e R s m args below meth c H locs cells slots Q (F0 m pc ls (.int (nI 0) :: .int (bI P) :: rest)) :=
  lv_icmp_eq hx hb hdg ht (fun h => kt (bI_00.mp h)) (fun h => kf (Classical.byContradiction fun q => h (bI_00.mpr q)))
theorem b_ine1 {P : Prop} {off : Int} {tgt : Nat} (hx : p.tables.exec = Jvm.exec) (hb : c.code = cc) (hdg : decode cc pc = .ok (.if_icmp .ne off, 3)) (ht : (pc : Int) + off = (tgt : Int)) (kt : ¬ P → W p l e R s m args below meth c H locs cells slots Q (F0 m tgt ls rest)) (kf : P → W p l e R s m args below meth c H locs cells slots Q (F0 m (pc + 3) ls rest)) : W p l e R s m args below meth c H locs cells slots Q (F0 m pc ls (.int (nI 1) :: .int (bI P) :: rest)) :=
  lv_icmp_ne hx hb hdg ht (fun h => kt fun q => h (bI_1.mpr q)) (fun h => kf (bI_1.mp h))
theorem b_ine0 {P : Prop} {off : Int} {tgt : Nat} (hx : p.tables.exec = Jvm.exec) (hb : c.code = cc) (hdg : decode cc pc = .ok (.if_icmp .ne off, 3)) (ht : (pc : Int) + off = (tgt : Int)) (kt : P → W p l e R s m args below meth c H locs cells slots Q (F0 m tgt ls rest)) (kf : ¬ P → W p l e R s m args below meth c H locs cells slots Q (F0 m (pc + 3) ls rest)) : W p l e R s m args below meth c H locs cells slots Q (F0 m pc ls (.int (nI 0) :: .int (bI P) :: rest)) :=
  lv_icmp_ne hx hb hdg ht (fun h => kt (Classical.byContradiction fun q => h (bI_00.mpr q))) (fun h => kf (bI_00.mp h))
end BB
noncomputable def wy1 (z : Nat → Int32) (u : Nat) : Int32 := iF (¬ z (13*u + 68) = 0) (nI 1) (iF (hld z u) (nI 2) (iF (¬ tst z u) (nI 3) (iF (gr z u (nI 0) = 0) (nI 4) (iF (z (13*u + 69) ≤ nI 1) (nI 0) (nI 5)))))
noncomputable def wy2 (z : Nat → Int32) (u : Nat) : Int32 := iF (¬ z (13*u + 68) = 0) (nI 1) (iF (hld z u) (nI 2) (iF (¬ tst z u) (nI 3) (iF (gr z u (nI 0) = nI 3) (nI 4) (nI 0))))
noncomputable def wy3 (z : Nat → Int32) (u : Nat) : Int32 := iF (¬ z (13*u + 68) = 0) (nI 1) (iF (hld z u) (nI 2) (iF (¬ tst z u) (nI 3) (nI 0)))
noncomputable def wy4 (z : Nat → Int32) (u : Nat) : Int32 := iF (¬ z (13*u + 68) = 0) (nI 1) (iF (¬ hld z u) (nI 2) (nI 0))
noncomputable def wfb (z : Nat → Int32) (u v : Nat) : Int32 := iF (gr z u (nI 0) - gr z v (nI 0) = 0) (cst z u - cst z v) (gr z u (nI 0) - gr z v (nI 0))
def wf (z : Nat → Int32) (u v : Nat) : Prop := 0 < wfb z u v ∨ (wfb z u v = 0 ∧ u < v)
def bit (d : Int32) (u : Nat) : Int32 := (d >>> (nI u &&& 31)) &&& nI 1
def may (z : Nat → Int32) (d k : Int32) (u : Nat) : Prop := z (13*u + 68) = nI 1 ∧ bit d u = 0 ∧ (¬ k = 0 ∨ ¬ hld z u)
def oI (b : Option Nat) : Int32 := match b with
  | none => -1
  | some j => nI j
noncomputable def nw (z : Nat → Int32) (d k : Int32) : Nat → Option Nat
  | 0 => none
  | i + 1 => iF (may z d k i ∧ (nw z d k i = none ∨ ∃ j, nw z d k i = some j ∧ wf z i j)) (some i) (nw z d k i)
theorem nw_lt {z : Nat → Int32} {d k : Int32} : ∀ {i j : Nat}, nw z d k i = some j → j < i ∧ may z d k j
  | 0, j, h => by cases h
  | i + 1, j, h => by
    by_cases q : may z d k i ∧ (nw z d k i = none ∨ ∃ j, nw z d k i = some j ∧ wf z i j)
    · have h9 : nw z d k (i + 1) = some i := iF_t q
      rw [h9] at h
      cases h
      exact ⟨Nat.lt_succ_self i, q.1⟩
    · have h9 : nw z d k (i + 1) = nw z d k i := iF_f q
      rw [h9] at h
      have := nw_lt h
      exact ⟨by omega, this.2⟩
def wts (z : Nat → Int32) (u : Nat) : Prop := ¬ z (13*u + 70) = -1 ∧ z (13*u + 72) = 0
def cay (z : Nat → Int32) (d : Int32) (u : Nat) : Prop := wts z u ∧ bit d u = 0
noncomputable def nc (z : Nat → Int32) (d : Int32) : Nat → Option Nat
  | 0 => none
  | i + 1 => iF (cay z d i ∧ (nc z d i = none ∨ ∃ j, nc z d i = some j ∧ ¬ z (13*i + 70) ≤ z (13*j + 70))) (some i) (nc z d i)
theorem nc_lt {z : Nat → Int32} {d : Int32} : ∀ {i j : Nat}, nc z d i = some j → j < i ∧ cay z d j
  | 0, j, h => by cases h
  | i + 1, j, h => by
    by_cases q : cay z d i ∧ (nc z d i = none ∨ ∃ j, nc z d i = some j ∧ ¬ z (13*i + 70) ≤ z (13*j + 70))
    · have h9 : nc z d (i + 1) = some i := iF_t q
      rw [h9] at h
      cases h
      exact ⟨Nat.lt_succ_self i, q.1⟩
    · have h9 : nc z d (i + 1) = nc z d i := iF_f q
      rw [h9] at h
      have := nc_lt h
      exact ⟨by omega, this.2⟩
noncomputable def pts (z : Nat → Int32) (u : Nat) : Int32 := (nI 0 + (scr z u 0 (nI 1) - scr z u 0 (nI 0))) + (scr z u 1 (nI 1) - scr z u 1 (nI 0)) + (scr z u 2 (nI 1) - scr z u 2 (nI 0)) + (scr z u 3 (nI 1) - scr z u 3 (nI 0))
noncomputable def amt (z : Nat → Int32) (u : Nat) : Int32 := (cst z u * z (8*pv z (up z u) + ur z u + 34)) / nI 100 * gr z u (nI 0) / nI 3
noncomputable def amT (z : Nat → Int32) (u : Nat) : Int32 := iF (tst z u) (amt z u) (-1)
noncomputable def rpa0 (z : Nat → Int32) (u : Nat) : Int32 := iF (tst z u) (gr z u (nI 1)) (-1)
noncomputable def rpa1 (z : Nat → Int32) (u : Nat) : Int32 := iF (tst z u) (pts z u * z 11) (-1)
noncomputable def rpa2 (z : Nat → Int32) (u : Nat) : Int32 := iF (tst z u) (prc z u (gr z u (nI 1))) (-1)
noncomputable def ofN (z : Nat → Int32) (q : Nat) (P : Int32 → Prop) : Nat → Int32
  | 0 => nI 0
  | i + 1 => ofN z q P i + bI (up z i = q ∧ P (z (13*i + 68)))
noncomputable def clN (z : Nat → Int32) (v : Nat) : Nat → Int32
  | 0 => nI 0
  | i + 1 => clN z v i + bI (wts z i ∧ ub z i = v)
noncomputable def clA (z : Nat → Int32) (v : Nat) : Nat → Int32
  | 0 => nI 0
  | i + 1 => clA z v i + iF (wts z i ∧ ub z i = v) (z (13*i + 70)) (nI 0)
noncomputable def whN (z : Nat → Int32) (x : Int32) : Nat → Int32
  | 0 => nI 0
  | i + 1 => whN z x i + bI (z (13*i + 68) = x)
noncomputable def wkN (z : Nat → Int32) : Nat → Int32
  | 0 => nI 0
  | i + 1 => wkN z i + bI (z (13*i + 68) = nI 1 ∧ ¬ hld z i)
def coN (z : Nat → Int32) : Nat → Int32
  | 0 => nI 0
  | i + 1 => coN z i + cst z i
