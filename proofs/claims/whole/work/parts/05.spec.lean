/-! ===== what the methods answer, in words over z ===== -/
theorem inc_1 (n : Nat) : nI n + Int32.ofInt 1 = nI (n + 1) := (nI_succ n).symm
theorem bI_fit (P : Prop) : fits .boolean (.int (bI P)) = true := by
  by_cases h : P
  · rw [bI_t h]; rfl
  · rw [bI_f h]; rfl
def mmaxI (x y : Int32) : Int32 := if x < y then y else x
def mminI (x y : Int32) : Int32 := if y < x then y else x
section MM
variable {p : Program} {l : Launch} {e : Env} {R : Room} {s : State} {m : MethodId} {args : Array Value} {below : List Frame} {meth : Method} {c : Code} {H : Heap} {locs : List Loc} {cells slots : Nat} {Q : State → Prop} {pc : Nat} {ls : Array Slot} {rest : List Value}
theorem k_mmax {cc : ByteArray} (hx : p.tables.exec = Jvm.exec) (hb : c.code = cc) (hml : c.maxLocals = ls.size) {own : String} {index : Nat} (hown : s.vm.findClass own = some m.cls) (hlink : (Cond.methodLink own index Lib.Math.max.name).before args s = true) (hstat : (Cond.static Lib.Math.max.name).before args s = true) (hini : (Cond.initialized "java/lang/Math").before args s = true) (hcode : (Cond.code Lib.Math.max.name Lib.Math.max.code 2 (some .int)).before args s = true)
    (hframes : 1 ≤ R.frames) (hlocals : (rest.map fun v => v.category).sum + 13 ≤ R.locals) (hc : cells ≤ R.cells) (hs : slots ≤ R.slots) {x y : Int32} (hdg : decode cc pc = .ok (.invokestatic index, 3))
    (kk : W p l e R s m args below meth c H locs cells slots Q (F0 m (pc + 3) ls (.int (mmaxI x y) :: rest))) : W p l e R s m args below meth c H locs cells slots Q (F0 m pc ls (.int y :: .int x :: rest)) := va_mmax hx hb hml hown hlink hstat hini hcode hframes hlocals hc hs hdg kk
theorem k_mmin {cc : ByteArray} (hx : p.tables.exec = Jvm.exec) (hb : c.code = cc) (hml : c.maxLocals = ls.size) {own : String} {index : Nat} (hown : s.vm.findClass own = some m.cls) (hlink : (Cond.methodLink own index Lib.Math.min.name).before args s = true) (hstat : (Cond.static Lib.Math.min.name).before args s = true) (hini : (Cond.initialized "java/lang/Math").before args s = true) (hcode : (Cond.code Lib.Math.min.name Lib.Math.min.code 2 (some .int)).before args s = true)
    (hframes : 1 ≤ R.frames) (hlocals : (rest.map fun v => v.category).sum + 13 ≤ R.locals) (hc : cells ≤ R.cells) (hs : slots ≤ R.slots) {x y : Int32} (hdg : decode cc pc = .ok (.invokestatic index, 3))
    (kk : W p l e R s m args below meth c H locs cells slots Q (F0 m (pc + 3) ls (.int (mminI x y) :: rest))) : W p l e R s m args below meth c H locs cells slots Q (F0 m pc ls (.int y :: .int x :: rest)) := va_mmin hx hb hml hown hlink hstat hini hcode hframes hlocals hc hs hdg kk
end MM
def cst (z : Nat → Int32) (u : Nat) : Int32 := z (3*up z u + 12)
def tst (z : Nat → Int32) (u : Nat) : Prop := 0 ≤ z (13*u + 64) ∧ 0 ≤ z (13*u + 65) ∧ 0 ≤ z (13*u + 66) ∧ 0 ≤ z (13*u + 67)
def hld (z : Nat → Int32) (u : Nat) : Prop := z (13*u + 68) < nI 2 ∧ z (3*up z u + 14) = nI 1
noncomputable def scr (z : Nat → Int32) (u t : Nat) (k : Int32) : Int32 := iF (¬ k = 0 ∧ z (13*u + t + 64) < nI 7) (nI 7) (z (13*u + t + 64))
noncomputable def smm (z : Nat → Int32) (u : Nat) (k : Int32) : Int32 := (nI 0 + scr z u 0 k) + scr z u 1 k + scr z u 2 k + scr z u 3 k
def zer (z : Nat → Int32) (u : Nat) (k : Int32) : Prop := scr z u 0 k = 0 ∨ scr z u 1 k = 0 ∨ scr z u 2 k = 0 ∨ scr z u 3 k = 0
noncomputable def gsm (z : Nat → Int32) (x : Int32) : Int32 := iF (x < z 7) (iF (x < z 8) (iF (x < z 9) (nI 3) (nI 2)) (nI 1)) (nI 0)
noncomputable def gr (z : Nat → Int32) (u : Nat) (k : Int32) : Int32 := iF (zer z u k ∧ ¬ nI 2 ≤ gsm z (smm z u k)) (nI 2) (gsm z (smm z u k))
noncomputable def grT (z : Nat → Int32) (u : Nat) : Int32 := iF (tst z u) (gr z u (nI 0)) (-1)
noncomputable def prt (g : Int32) : Int32 := iF (g = 0) (nI 90) (iF (g = nI 1) (nI 70) (iF (g = nI 2) (nI 40) (nI 0)))
noncomputable def prc (z : Nat → Int32) (u : Nat) (g : Int32) : Int32 := cst z u * prt g / nI 100
noncomputable def hlN (z : Nat → Int32) : Nat → Int32
  | 0 => nI 0
  | i + 1 => hlN z i + bI (hld z i)
