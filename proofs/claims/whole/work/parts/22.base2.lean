/-! ===== a desk of which n units count: its numbers but 2, 3, 4, 6, which it doesn't hold ===== -/
def ag (n : Nat) (a b : Nat → Int32) : Prop := ∀ p, p < 13*n + 62 → p ≠ 2 → p ≠ 3 → p ≠ 4 → p ≠ 6 → a p = b p
theorem ag_rf {n : Nat} {a : Nat → Int32} : ag n a a := fun _ _ _ _ _ _ => rfl
theorem ag_sy {n : Nat} {a b : Nat → Int32} (h : ag n a b) : ag n b a := fun p h1 h2 h3 h4 h6 => (h p h1 h2 h3 h4 h6).symm
theorem ag_tr {n : Nat} {a b c : Nat → Int32} (h : ag n a b) (k : ag n b c) : ag n a c := fun p h1 h2 h3 h4 h6 => (h p h1 h2 h3 h4 h6).trans (k p h1 h2 h3 h4 h6)
theorem ag_le {n m : Nat} {a b : Nat → Int32} (h : ag n a b) (hm : m ≤ n) : ag m a b := fun p h1 h2 h3 h4 h6 => h p (by omega) h2 h3 h4 h6
theorem ag_up {n p : Nat} {x : Int32} {a b : Nat → Int32} (h : ag n a b) : ag n (upd a p x) (upd b p x) := by
  intro j h1 h2 h3 h4 h6
  by_cases q : j = p
  · rw [q, upd_s, upd_s]
  · rw [upd_n q, upd_n q]; exact h j h1 h2 h3 h4 h6
theorem bl_ne {a n b m q : Nat} (h : bl a n q) (hd : a + n ≤ b ∨ b + m ≤ a) : ¬ bl b m q := fun k => by
  have h1 := h.1
  have h2 := h.2
  have k1 := k.1
  have k2 := k.2
  omega
theorem bl_sub {a n b m q : Nat} (h : bl a n q) (hd : b ≤ a ∧ a + n ≤ b + m) : bl b m q := ⟨by have := h.1; omega, by have := h.2; omega⟩
def dq (E : ke_E) (d n : Nat) (z : Nat → Int32) (H : Heap) : Prop := ∃ y, dp E d y H ∧ ag n y z
theorem dq_of {E : ke_E} {d n : Nat} {z : Nat → Int32} {H : Heap} (h : dp E d z H) : dq E d n z H := ⟨z, h, ag_rf⟩
theorem dq_z {E : ke_E} {d n : Nat} {z z' : Nat → Int32} {H : Heap} (h : dq E d n z H) (k : ag n z z') : dq E d n z' H := by
  obtain ⟨y, h1, h2⟩ := h
  exact ⟨y, h1, ag_tr h2 k⟩
theorem dq_le {E : ke_E} {d n m : Nat} {z : Nat → Int32} {H : Heap} (h : dq E d n z H) (k : m ≤ n) : dq E d m z H := by
  obtain ⟨y, h1, h2⟩ := h
  exact ⟨y, h1, ag_le h2 k⟩
theorem dp_lt {E : ke_E} {d q : Nat} {z : Nat → Int32} {H : Heap} (h : dp E d z H) (hq : bl d 59 q) : q < H.size := by
  have k := (h.2.2.2.2.2.2.2.2.2 19 (by omega)).lt
  have := hq.2
  have k : d + 2*19 + 20 < H.size := k
  omega
theorem dp_fr2 {E : ke_E} {d : Nat} {z : Nat → Int32} {H H1 : Heap} (h : dp E d z H) (hq : ∀ q : Nat, q < H.size → bl d 59 q → H1[q]? = H[q]?) : dp E d z H1 := dp_fr h fun q k => hq q (dp_lt h k) k
theorem dq_fr {E : ke_E} {d n : Nat} {z : Nat → Int32} {H H1 : Heap} (h : dq E d n z H) (hq : ∀ q : Nat, bl d 59 q → H1[q]? = H[q]?) : dq E d n z H1 := by
  obtain ⟨y, h1, h2⟩ := h
  exact ⟨y, dp_fr h1 hq, h2⟩
theorem dq_fr2 {E : ke_E} {d n : Nat} {z : Nat → Int32} {H H1 : Heap} (h : dq E d n z H) (hq : ∀ q : Nat, q < H.size → bl d 59 q → H1[q]? = H[q]?) : dq E d n z H1 := by
  obtain ⟨y, h1, h2⟩ := h
  exact ⟨y, dp_fr2 h1 hq, h2⟩
section DQ
variable {E : ke_E} {d n : Nat} {z : Nat → Int32} {H : Heap}
theorem dq_d (h : dq E d n z H) : va_at E.1 vwCl (d, .inr (1, dk_F d z)) H := by
  obtain ⟨y, h1, h2⟩ := h
  have k := h1.1
  rw [show dk_F d y = dk_F d z by unfold dk_F; rw [h2 0 (by omega) (by omega) (by omega) (by omega) (by omega), h2 1 (by omega) (by omega) (by omega) (by omega) (by omega), h2 5 (by omega) (by omega) (by omega) (by omega) (by omega)]] at k
  exact k
theorem dq_pa (h : dq E d n z H) : va_at E.1 vwCl (d + 1, .inl (E.2 1, rfs 6 (fun i => d + i + 5))) H := by
  obtain ⟨y, h1, h2⟩ := h
  exact h1.2.1
theorem dq_va (h : dq E d n z H) : va_at E.1 vwCl (d + 2, .inl (E.2 2, rfs 4 (fun v => d + 2*v + 11))) H := by
  obtain ⟨y, h1, h2⟩ := h
  exact h1.2.2.1
theorem dq_ua (h : dq E d n z H) : va_at E.1 vwCl (d + 3, .inl (E.2 3, rfs 20 (fun u => d + 2*u + 19))) H := by
  obtain ⟨y, h1, h2⟩ := h
  exact h1.2.2.2.1
theorem va_arr {a m : Nat} {f g : Nat → Int32} (h : va_at E.1 vwCl (a, .inl (E.2 0, m, .inl f)) H) (k : ∀ q, q < m → f q = g q) : va_at E.1 vwCl (a, .inl (E.2 0, m, .inl g)) H := by
  show H[a]? = _
  refine h.trans (congrArg some ?_)
  exact dp_arr fun q hq => (k q hq).symm
theorem dq_st (h : dq E d n z H) : va_at E.1 vwCl (d + 4, .inl (E.2 0, 5, .inl (fun k => z (k + 7)))) H := by
  obtain ⟨y, h1, h2⟩ := h
  exact va_arr h1.2.2.2.2.1 fun q hq => h2 _ (by omega) (by omega) (by omega) (by omega) (by omega)
theorem dq_p (h : dq E d n z H) (i : Nat) (hi : i < 6) : va_at E.1 vwCl (d + i + 5, .inr (3, pr_F i z)) H := by
  obtain ⟨y, h1, h2⟩ := h
  have k := h1.2.2.2.2.2.1 i hi
  rw [show pr_F i y = pr_F i z by unfold pr_F; rw [h2 (3*i + 12) (by omega) (by omega) (by omega) (by omega) (by omega), h2 (3*i + 13) (by omega) (by omega) (by omega) (by omega) (by omega), h2 (3*i + 14) (by omega) (by omega) (by omega) (by omega) (by omega)]] at k
  exact k
theorem dq_v (h : dq E d n z H) (v : Nat) (hv : v < 4) : va_at E.1 vwCl (d + 2*v + 11, .inr (5, ve_F d v z)) H := by
  obtain ⟨y, h1, h2⟩ := h
  have k := h1.2.2.2.2.2.2.1 v hv
  rw [show ve_F d v y = ve_F d v z by unfold ve_F; rw [h2 (8*v + 30) (by omega) (by omega) (by omega) (by omega) (by omega), h2 (8*v + 31) (by omega) (by omega) (by omega) (by omega) (by omega), h2 (8*v + 32) (by omega) (by omega) (by omega) (by omega) (by omega), h2 (8*v + 33) (by omega) (by omega) (by omega) (by omega) (by omega)]] at k
  exact k
theorem dq_ag (h : dq E d n z H) (v : Nat) (hv : v < 4) : va_at E.1 vwCl (d + 2*v + 12, .inl (E.2 0, 4, .inl (fun r => z (8*v + r + 34)))) H := by
  obtain ⟨y, h1, h2⟩ := h
  exact va_arr (h1.2.2.2.2.2.2.2.1 v hv) fun q hq => h2 _ (by omega) (by omega) (by omega) (by omega) (by omega)
theorem un_ag {y : Nat → Int32} {u : Nat} (h2 : ag n y z) (hu : u < n) : un_F d u y = un_F d u z := by
  unfold un_F
  rw [h2 (13*u + 62) (by omega) (by omega) (by omega) (by omega) (by omega), h2 (13*u + 63) (by omega) (by omega) (by omega) (by omega) (by omega), h2 (13*u + 68) (by omega) (by omega) (by omega) (by omega) (by omega), h2 (13*u + 69) (by omega) (by omega) (by omega) (by omega) (by omega), h2 (13*u + 70) (by omega) (by omega) (by omega) (by omega) (by omega), h2 (13*u + 71) (by omega) (by omega) (by omega) (by omega) (by omega), h2 (13*u + 72) (by omega) (by omega) (by omega) (by omega) (by omega), h2 (13*u + 73) (by omega) (by omega) (by omega) (by omega) (by omega), h2 (13*u + 74) (by omega) (by omega) (by omega) (by omega) (by omega)]
theorem dq_u (h : dq E d n z H) (hn : n ≤ 20) (u : Nat) (hu : u < n) : va_at E.1 vwCl (d + 2*u + 19, .inr (4, un_F d u z)) H := by
  obtain ⟨y, h1, h2⟩ := h
  have k := h1.2.2.2.2.2.2.2.2.1 u (by omega)
  rw [un_ag h2 hu] at k
  exact k
theorem dq_sc (h : dq E d n z H) (hn : n ≤ 20) (u : Nat) (hu : u < n) : va_at E.1 vwCl (d + 2*u + 20, .inl (E.2 0, 4, .inl (fun t => z (13*u + t + 64)))) H := by
  obtain ⟨y, h1, h2⟩ := h
  exact va_arr (h1.2.2.2.2.2.2.2.2.2 u (by omega)) fun q hq => h2 _ (by omega) (by omega) (by omega) (by omega) (by omega)
end DQ
section DQR
variable {p : Program} {l : Launch} {e : Env} {R : Room} {s : State} {m : MethodId} {args : Array Value} {below : List Frame} {meth : Method} {c : Code} {H : Heap} {locs : List Loc} {cells slots : Nat} {Q : State → Prop}
variable {cc : ByteArray} {pc nL : Nat} {ls : Array Slot} {rest st0 : List Value} {E : ke_E} {Ts : List Cond} {own : String} {A : Nat → Prop} {H0 : Heap}
variable {d n0 : Nat} {z : Nat → Int32} {x : Int32}
theorem dq_putD {index : Nat}  (S : CallFix p m c cc nL s args Ts own) (hK : ke E s) (hD : dq E d n0 z H) (hin : ∀ w ∈ wsX10, w ∈ Ts) (k : Nat) (hk : k < 7) (hlink : Cond.fieldLink own index RX1 (TX1 k).2.1 (TX1 k).2.2.1 ∈ Ts) (href : (TX1 k).1 = RX1) (hfin : (TX1 k).2.2.2 = false) (hn : narrow (tyX1 k) (.int x) = .int x) (hfit : fits (tyX1 k) (.int x) = true) {j : Nat} (hF : ∀ z : Nat → Int32, (dk_F d z).set k (.int x) = dk_F d (upd z (j) x)) (hj : j = 0 ∨ j = 1 ∨ j = 5) (hS : va_S A H0 H locs) (hA : ∀ q, bl d 59 q → A q) (hdg : decode cc pc = .ok (.putfield index, 3))
    (kk : ∀ (H1 : Heap) (locs1 : List Loc), dq E d n0 (upd z (j) x) H1 → H1.size = H.size → (∀ q : Nat, ¬ bl d 59 q → H1[q]? = H[q]?) → va_S A H0 H1 locs1 → W p l e R s m args below meth c H1 locs1 cells slots Q (F0 m (pc + 3) ls rest)) : W p l e R s m args below meth c H locs cells slots Q (F0 m pc ls (.int x :: .ref (d) :: rest)) := by
  obtain ⟨y, h1, h2⟩ := hD
  exact dp_putD S hK h1 hin k hk hlink href hfin hn hfit (hF y) hj hS hA hdg fun H1 locs1 e0 e1 e2 e3 => kk H1 locs1 ⟨_, e0, ag_up h2⟩ e1 e2 e3
theorem dq_putP {index : Nat} {i0 : Nat} (hi0 : i0 < 6) (S : CallFix p m c cc nL s args Ts own) (hK : ke E s) (hD : dq E d n0 z H) (hin : ∀ w ∈ wsX30, w ∈ Ts) (k : Nat) (hk : k < 3) (hlink : Cond.fieldLink own index RX3 (TX3 k).2.1 (TX3 k).2.2.1 ∈ Ts) (href : (TX3 k).1 = RX3) (hfin : (TX3 k).2.2.2 = false) (hn : narrow (tyX3 k) (.int x) = .int x) (hfit : fits (tyX3 k) (.int x) = true) {j : Nat} (hF : ∀ z : Nat → Int32, (pr_F i0 z).set k (.int x) = pr_F i0 (upd z (3*i0 + j) x)) (hj : 12 ≤ j ∧ j < 15) (hS : va_S A H0 H locs) (hA : ∀ q, bl d 59 q → A q) (hdg : decode cc pc = .ok (.putfield index, 3))
    (kk : ∀ (H1 : Heap) (locs1 : List Loc), dq E d n0 (upd z (3*i0 + j) x) H1 → H1.size = H.size → (∀ q : Nat, ¬ bl d 59 q → H1[q]? = H[q]?) → va_S A H0 H1 locs1 → W p l e R s m args below meth c H1 locs1 cells slots Q (F0 m (pc + 3) ls rest)) : W p l e R s m args below meth c H locs cells slots Q (F0 m pc ls (.int x :: .ref (d + i0 + 5) :: rest)) := by
  obtain ⟨y, h1, h2⟩ := hD
  exact dp_putP hi0 S hK h1 hin k hk hlink href hfin hn hfit (hF y) hj hS hA hdg fun H1 locs1 e0 e1 e2 e3 => kk H1 locs1 ⟨_, e0, ag_up h2⟩ e1 e2 e3
theorem dq_putV {index : Nat} {v0 : Nat} (hv0 : v0 < 4) (S : CallFix p m c cc nL s args Ts own) (hK : ke E s) (hD : dq E d n0 z H) (hin : ∀ w ∈ wsX50, w ∈ Ts) (k : Nat) (hk : k < 5) (hlink : Cond.fieldLink own index RX5 (TX5 k).2.1 (TX5 k).2.2.1 ∈ Ts) (href : (TX5 k).1 = RX5) (hfin : (TX5 k).2.2.2 = false) (hn : narrow (tyX5 k) (.int x) = .int x) (hfit : fits (tyX5 k) (.int x) = true) {j : Nat} (hF : ∀ z : Nat → Int32, (ve_F d v0 z).set k (.int x) = ve_F d v0 (upd z (8*v0 + j) x)) (hj : 30 ≤ j ∧ j < 34) (hS : va_S A H0 H locs) (hA : ∀ q, bl d 59 q → A q) (hdg : decode cc pc = .ok (.putfield index, 3))
    (kk : ∀ (H1 : Heap) (locs1 : List Loc), dq E d n0 (upd z (8*v0 + j) x) H1 → H1.size = H.size → (∀ q : Nat, ¬ bl d 59 q → H1[q]? = H[q]?) → va_S A H0 H1 locs1 → W p l e R s m args below meth c H1 locs1 cells slots Q (F0 m (pc + 3) ls rest)) : W p l e R s m args below meth c H locs cells slots Q (F0 m pc ls (.int x :: .ref (d + 2*v0 + 11) :: rest)) := by
  obtain ⟨y, h1, h2⟩ := hD
  exact dp_putV hv0 S hK h1 hin k hk hlink href hfin hn hfit (hF y) hj hS hA hdg fun H1 locs1 e0 e1 e2 e3 => kk H1 locs1 ⟨_, e0, ag_up h2⟩ e1 e2 e3
theorem dq_putU {index : Nat} {u0 : Nat} (hu0 : u0 < 20) (S : CallFix p m c cc nL s args Ts own) (hK : ke E s) (hD : dq E d n0 z H) (hin : ∀ w ∈ wsX40, w ∈ Ts) (k : Nat) (hk : k < 10) (hlink : Cond.fieldLink own index RX4 (TX4 k).2.1 (TX4 k).2.2.1 ∈ Ts) (href : (TX4 k).1 = RX4) (hfin : (TX4 k).2.2.2 = false) (hn : narrow (tyX4 k) (.int x) = .int x) (hfit : fits (tyX4 k) (.int x) = true) {j : Nat} (hF : ∀ z : Nat → Int32, (un_F d u0 z).set k (.int x) = un_F d u0 (upd z (13*u0 + j) x)) (hj : 62 ≤ j ∧ j < 64 ∨ 68 ≤ j ∧ j < 75) (hS : va_S A H0 H locs) (hA : ∀ q, bl d 59 q → A q) (hdg : decode cc pc = .ok (.putfield index, 3))
    (kk : ∀ (H1 : Heap) (locs1 : List Loc), dq E d n0 (upd z (13*u0 + j) x) H1 → H1.size = H.size → (∀ q : Nat, ¬ bl d 59 q → H1[q]? = H[q]?) → va_S A H0 H1 locs1 → W p l e R s m args below meth c H1 locs1 cells slots Q (F0 m (pc + 3) ls rest)) : W p l e R s m args below meth c H locs cells slots Q (F0 m pc ls (.int x :: .ref (d + 2*u0 + 19) :: rest)) := by
  obtain ⟨y, h1, h2⟩ := hD
  exact dp_putU hu0 S hK h1 hin k hk hlink href hfin hn hfit (hF y) hj hS hA hdg fun H1 locs1 e0 e1 e2 e3 => kk H1 locs1 ⟨_, e0, ag_up h2⟩ e1 e2 e3
theorem dq_astS  {i0 : Nat} (hx : p.tables.exec = Jvm.exec) (hb : c.code = cc) (hK : ke E s) (hD : dq E d n0 z H) (hi0 : i0 < 5) (hS : va_S A H0 H locs) (hA : ∀ q, bl d 59 q → A q) (hdg : decode cc pc = .ok (.iastore, 1))
    (kk : ∀ (H1 : Heap) (locs1 : List Loc), dq E d n0 (upd z (i0 + 7) x) H1 → H1.size = H.size → (∀ q : Nat, ¬ bl d 59 q → H1[q]? = H[q]?) → va_S A H0 H1 locs1 → W p l e R s m args below meth c H1 locs1 cells slots Q (F0 m (pc + 1) ls rest)) : W p l e R s m args below meth c H locs cells slots Q (F0 m pc ls (.int x :: .int (nI i0) :: .ref (d + 4) :: rest)) := by
  obtain ⟨y, h1, h2⟩ := hD
  exact dp_astS hx hb hK h1 hi0 hS hA hdg fun H1 locs1 e0 e1 e2 e3 => kk H1 locs1 ⟨_, e0, ag_up h2⟩ e1 e2 e3
theorem dq_astA {v0 : Nat} (hv0 : v0 < 4) {i0 : Nat} (hx : p.tables.exec = Jvm.exec) (hb : c.code = cc) (hK : ke E s) (hD : dq E d n0 z H) (hi0 : i0 < 4) (hS : va_S A H0 H locs) (hA : ∀ q, bl d 59 q → A q) (hdg : decode cc pc = .ok (.iastore, 1))
    (kk : ∀ (H1 : Heap) (locs1 : List Loc), dq E d n0 (upd z (8*v0 + i0 + 34) x) H1 → H1.size = H.size → (∀ q : Nat, ¬ bl d 59 q → H1[q]? = H[q]?) → va_S A H0 H1 locs1 → W p l e R s m args below meth c H1 locs1 cells slots Q (F0 m (pc + 1) ls rest)) : W p l e R s m args below meth c H locs cells slots Q (F0 m pc ls (.int x :: .int (nI i0) :: .ref (d + 2*v0 + 12) :: rest)) := by
  obtain ⟨y, h1, h2⟩ := hD
  exact dp_astA hv0 hx hb hK h1 hi0 hS hA hdg fun H1 locs1 e0 e1 e2 e3 => kk H1 locs1 ⟨_, e0, ag_up h2⟩ e1 e2 e3
theorem dq_astU {u0 : Nat} (hu0 : u0 < 20) {i0 : Nat} (hx : p.tables.exec = Jvm.exec) (hb : c.code = cc) (hK : ke E s) (hD : dq E d n0 z H) (hi0 : i0 < 4) (hS : va_S A H0 H locs) (hA : ∀ q, bl d 59 q → A q) (hdg : decode cc pc = .ok (.iastore, 1))
    (kk : ∀ (H1 : Heap) (locs1 : List Loc), dq E d n0 (upd z (13*u0 + i0 + 64) x) H1 → H1.size = H.size → (∀ q : Nat, ¬ bl d 59 q → H1[q]? = H[q]?) → va_S A H0 H1 locs1 → W p l e R s m args below meth c H1 locs1 cells slots Q (F0 m (pc + 1) ls rest)) : W p l e R s m args below meth c H locs cells slots Q (F0 m pc ls (.int x :: .int (nI i0) :: .ref (d + 2*u0 + 20) :: rest)) := by
  obtain ⟨y, h1, h2⟩ := hD
  exact dp_astU hu0 hx hb hK h1 hi0 hS hA hdg fun H1 locs1 e0 e1 e2 e3 => kk H1 locs1 ⟨_, e0, ag_up h2⟩ e1 e2 e3
/-! a desk of z -/
end DQR
def dz (E : ke_E) (d : Nat) (z : Nat → Int32) (H : Heap) : Prop := cn z ≤ 20 ∧ dq E d (cn z) z H
theorem dz_fr {E : ke_E} {d : Nat} {z : Nat → Int32} {H H1 : Heap} (h : dz E d z H) (hq : ∀ q : Nat, bl d 59 q → H1[q]? = H[q]?) : dz E d z H1 := ⟨h.1, dq_fr h.2 hq⟩
theorem dz_fr2 {E : ke_E} {d : Nat} {z : Nat → Int32} {H H1 : Heap} (h : dz E d z H) (hq : ∀ q : Nat, q < H.size → bl d 59 q → H1[q]? = H[q]?) : dz E d z H1 := ⟨h.1, dq_fr2 h.2 hq⟩
theorem ag_cn {n : Nat} {z z' : Nat → Int32} (k : ag n z z') : cn z' = cn z := by
  unfold cn
  rw [k 0 (by omega) (by omega) (by omega) (by omega) (by omega)]
theorem dz_z {E : ke_E} {d : Nat} {z z' : Nat → Int32} {H : Heap} (h : dz E d z H) (k : ag (cn z) z z') : dz E d z' H := by
  have e := ag_cn k
  exact ⟨by rw [e]; exact h.1, by rw [e]; exact dq_z h.2 k⟩
section DZ
variable {E : ke_E} {d : Nat} {z : Nat → Int32} {H : Heap}
theorem dz_d (h : dz E d z H) : va_at E.1 vwCl (d, .inr (1, dk_F d z)) H := dq_d h.2
theorem dz_pa (h : dz E d z H) : va_at E.1 vwCl (d + 1, .inl (E.2 1, rfs 6 (fun i => d + i + 5))) H := dq_pa h.2
theorem dz_va (h : dz E d z H) : va_at E.1 vwCl (d + 2, .inl (E.2 2, rfs 4 (fun v => d + 2*v + 11))) H := dq_va h.2
theorem dz_ua (h : dz E d z H) : va_at E.1 vwCl (d + 3, .inl (E.2 3, rfs 20 (fun u => d + 2*u + 19))) H := dq_ua h.2
theorem dz_st (h : dz E d z H) : va_at E.1 vwCl (d + 4, .inl (E.2 0, 5, .inl (fun k => z (k + 7)))) H := dq_st h.2
theorem dz_p (h : dz E d z H) (i : Nat) (hi : i < 6) : va_at E.1 vwCl (d + i + 5, .inr (3, pr_F i z)) H := dq_p h.2 i hi
theorem dz_v (h : dz E d z H) (v : Nat) (hv : v < 4) : va_at E.1 vwCl (d + 2*v + 11, .inr (5, ve_F d v z)) H := dq_v h.2 v hv
theorem dz_ag (h : dz E d z H) (v : Nat) (hv : v < 4) : va_at E.1 vwCl (d + 2*v + 12, .inl (E.2 0, 4, .inl (fun r => z (8*v + r + 34)))) H := dq_ag h.2 v hv
theorem dz_u (h : dz E d z H) (u : Nat) (hu : u < cn z) : va_at E.1 vwCl (d + 2*u + 19, .inr (4, un_F d u z)) H := dq_u h.2 h.1 u hu
theorem dz_sc (h : dz E d z H) (u : Nat) (hu : u < cn z) : va_at E.1 vwCl (d + 2*u + 20, .inl (E.2 0, 4, .inl (fun t => z (13*u + t + 64)))) H := dq_sc h.2 h.1 u hu
end DZ
section DZR
variable {p : Program} {l : Launch} {e : Env} {R : Room} {s : State} {m : MethodId} {args : Array Value} {below : List Frame} {meth : Method} {c : Code} {H : Heap} {locs : List Loc} {cells slots : Nat} {Q : State → Prop}
variable {cc : ByteArray} {pc nL : Nat} {ls : Array Slot} {rest st0 : List Value} {E : ke_E} {Ts : List Cond} {own : String} {A : Nat → Prop} {H0 : Heap}
variable {d : Nat} {z : Nat → Int32} {x : Int32}
theorem dz_putD {index : Nat}  (S : CallFix p m c cc nL s args Ts own) (hK : ke E s) (hD : dz E d z H) (hin : ∀ w ∈ wsX10, w ∈ Ts) (k : Nat) (hk : k < 7) (hlink : Cond.fieldLink own index RX1 (TX1 k).2.1 (TX1 k).2.2.1 ∈ Ts) (href : (TX1 k).1 = RX1) (hfin : (TX1 k).2.2.2 = false) (hn : narrow (tyX1 k) (.int x) = .int x) (hfit : fits (tyX1 k) (.int x) = true) {j : Nat} (hF : ∀ z : Nat → Int32, (dk_F d z).set k (.int x) = dk_F d (upd z (j) x)) (hj : j = 1 ∨ j = 5) (hS : va_S A H0 H locs) (hA : ∀ q, bl d 59 q → A q) (hdg : decode cc pc = .ok (.putfield index, 3))
    (kk : ∀ (H1 : Heap) (locs1 : List Loc), dz E d (upd z (j) x) H1 → H1.size = H.size → (∀ q : Nat, ¬ bl d 59 q → H1[q]? = H[q]?) → va_S A H0 H1 locs1 → W p l e R s m args below meth c H1 locs1 cells slots Q (F0 m (pc + 3) ls rest)) : W p l e R s m args below meth c H locs cells slots Q (F0 m pc ls (.int x :: .ref (d) :: rest)) := by
  have e9 : cn (upd z (j) x) = cn z := cn_u (by omega)
  exact dq_putD S hK hD.2 hin k hk hlink href hfin hn hfit hF (by omega) hS hA hdg fun H1 locs1 e0 e1 e2 e3 => kk H1 locs1 ⟨by rw [e9]; exact hD.1, by rw [e9]; exact e0⟩ e1 e2 e3
theorem dz_putP {index : Nat} {i0 : Nat} (hi0 : i0 < 6) (S : CallFix p m c cc nL s args Ts own) (hK : ke E s) (hD : dz E d z H) (hin : ∀ w ∈ wsX30, w ∈ Ts) (k : Nat) (hk : k < 3) (hlink : Cond.fieldLink own index RX3 (TX3 k).2.1 (TX3 k).2.2.1 ∈ Ts) (href : (TX3 k).1 = RX3) (hfin : (TX3 k).2.2.2 = false) (hn : narrow (tyX3 k) (.int x) = .int x) (hfit : fits (tyX3 k) (.int x) = true) {j : Nat} (hF : ∀ z : Nat → Int32, (pr_F i0 z).set k (.int x) = pr_F i0 (upd z (3*i0 + j) x)) (hj : 12 ≤ j ∧ j < 15) (hS : va_S A H0 H locs) (hA : ∀ q, bl d 59 q → A q) (hdg : decode cc pc = .ok (.putfield index, 3))
    (kk : ∀ (H1 : Heap) (locs1 : List Loc), dz E d (upd z (3*i0 + j) x) H1 → H1.size = H.size → (∀ q : Nat, ¬ bl d 59 q → H1[q]? = H[q]?) → va_S A H0 H1 locs1 → W p l e R s m args below meth c H1 locs1 cells slots Q (F0 m (pc + 3) ls rest)) : W p l e R s m args below meth c H locs cells slots Q (F0 m pc ls (.int x :: .ref (d + i0 + 5) :: rest)) := by
  have e9 : cn (upd z (3*i0 + j) x) = cn z := cn_u (by omega)
  exact dq_putP hi0 S hK hD.2 hin k hk hlink href hfin hn hfit hF (by omega) hS hA hdg fun H1 locs1 e0 e1 e2 e3 => kk H1 locs1 ⟨by rw [e9]; exact hD.1, by rw [e9]; exact e0⟩ e1 e2 e3
theorem dz_putV {index : Nat} {v0 : Nat} (hv0 : v0 < 4) (S : CallFix p m c cc nL s args Ts own) (hK : ke E s) (hD : dz E d z H) (hin : ∀ w ∈ wsX50, w ∈ Ts) (k : Nat) (hk : k < 5) (hlink : Cond.fieldLink own index RX5 (TX5 k).2.1 (TX5 k).2.2.1 ∈ Ts) (href : (TX5 k).1 = RX5) (hfin : (TX5 k).2.2.2 = false) (hn : narrow (tyX5 k) (.int x) = .int x) (hfit : fits (tyX5 k) (.int x) = true) {j : Nat} (hF : ∀ z : Nat → Int32, (ve_F d v0 z).set k (.int x) = ve_F d v0 (upd z (8*v0 + j) x)) (hj : 30 ≤ j ∧ j < 34) (hS : va_S A H0 H locs) (hA : ∀ q, bl d 59 q → A q) (hdg : decode cc pc = .ok (.putfield index, 3))
    (kk : ∀ (H1 : Heap) (locs1 : List Loc), dz E d (upd z (8*v0 + j) x) H1 → H1.size = H.size → (∀ q : Nat, ¬ bl d 59 q → H1[q]? = H[q]?) → va_S A H0 H1 locs1 → W p l e R s m args below meth c H1 locs1 cells slots Q (F0 m (pc + 3) ls rest)) : W p l e R s m args below meth c H locs cells slots Q (F0 m pc ls (.int x :: .ref (d + 2*v0 + 11) :: rest)) := by
  have e9 : cn (upd z (8*v0 + j) x) = cn z := cn_u (by omega)
  exact dq_putV hv0 S hK hD.2 hin k hk hlink href hfin hn hfit hF (by omega) hS hA hdg fun H1 locs1 e0 e1 e2 e3 => kk H1 locs1 ⟨by rw [e9]; exact hD.1, by rw [e9]; exact e0⟩ e1 e2 e3
theorem dz_putU {index : Nat} {u0 : Nat} (hu0 : u0 < cn z) (S : CallFix p m c cc nL s args Ts own) (hK : ke E s) (hD : dz E d z H) (hin : ∀ w ∈ wsX40, w ∈ Ts) (k : Nat) (hk : k < 10) (hlink : Cond.fieldLink own index RX4 (TX4 k).2.1 (TX4 k).2.2.1 ∈ Ts) (href : (TX4 k).1 = RX4) (hfin : (TX4 k).2.2.2 = false) (hn : narrow (tyX4 k) (.int x) = .int x) (hfit : fits (tyX4 k) (.int x) = true) {j : Nat} (hF : ∀ z : Nat → Int32, (un_F d u0 z).set k (.int x) = un_F d u0 (upd z (13*u0 + j) x)) (hj : 62 ≤ j ∧ j < 64 ∨ 68 ≤ j ∧ j < 75) (hS : va_S A H0 H locs) (hA : ∀ q, bl d 59 q → A q) (hdg : decode cc pc = .ok (.putfield index, 3))
    (kk : ∀ (H1 : Heap) (locs1 : List Loc), dz E d (upd z (13*u0 + j) x) H1 → H1.size = H.size → (∀ q : Nat, ¬ bl d 59 q → H1[q]? = H[q]?) → va_S A H0 H1 locs1 → W p l e R s m args below meth c H1 locs1 cells slots Q (F0 m (pc + 3) ls rest)) : W p l e R s m args below meth c H locs cells slots Q (F0 m pc ls (.int x :: .ref (d + 2*u0 + 19) :: rest)) := by
  have e9 : cn (upd z (13*u0 + j) x) = cn z := cn_u (by omega)
  exact dq_putU (Nat.lt_of_lt_of_le hu0 hD.1) S hK hD.2 hin k hk hlink href hfin hn hfit hF (by omega) hS hA hdg fun H1 locs1 e0 e1 e2 e3 => kk H1 locs1 ⟨by rw [e9]; exact hD.1, by rw [e9]; exact e0⟩ e1 e2 e3
theorem dz_astS  {i0 : Nat} (hx : p.tables.exec = Jvm.exec) (hb : c.code = cc) (hK : ke E s) (hD : dz E d z H) (hi0 : i0 < 5) (hS : va_S A H0 H locs) (hA : ∀ q, bl d 59 q → A q) (hdg : decode cc pc = .ok (.iastore, 1))
    (kk : ∀ (H1 : Heap) (locs1 : List Loc), dz E d (upd z (i0 + 7) x) H1 → H1.size = H.size → (∀ q : Nat, ¬ bl d 59 q → H1[q]? = H[q]?) → va_S A H0 H1 locs1 → W p l e R s m args below meth c H1 locs1 cells slots Q (F0 m (pc + 1) ls rest)) : W p l e R s m args below meth c H locs cells slots Q (F0 m pc ls (.int x :: .int (nI i0) :: .ref (d + 4) :: rest)) := by
  have e9 : cn (upd z (i0 + 7) x) = cn z := cn_u (by omega)
  exact dq_astS hx hb hK hD.2 hi0 hS hA hdg fun H1 locs1 e0 e1 e2 e3 => kk H1 locs1 ⟨by rw [e9]; exact hD.1, by rw [e9]; exact e0⟩ e1 e2 e3
theorem dz_astA {v0 : Nat} (hv0 : v0 < 4) {i0 : Nat} (hx : p.tables.exec = Jvm.exec) (hb : c.code = cc) (hK : ke E s) (hD : dz E d z H) (hi0 : i0 < 4) (hS : va_S A H0 H locs) (hA : ∀ q, bl d 59 q → A q) (hdg : decode cc pc = .ok (.iastore, 1))
    (kk : ∀ (H1 : Heap) (locs1 : List Loc), dz E d (upd z (8*v0 + i0 + 34) x) H1 → H1.size = H.size → (∀ q : Nat, ¬ bl d 59 q → H1[q]? = H[q]?) → va_S A H0 H1 locs1 → W p l e R s m args below meth c H1 locs1 cells slots Q (F0 m (pc + 1) ls rest)) : W p l e R s m args below meth c H locs cells slots Q (F0 m pc ls (.int x :: .int (nI i0) :: .ref (d + 2*v0 + 12) :: rest)) := by
  have e9 : cn (upd z (8*v0 + i0 + 34) x) = cn z := cn_u (by omega)
  exact dq_astA hv0 hx hb hK hD.2 hi0 hS hA hdg fun H1 locs1 e0 e1 e2 e3 => kk H1 locs1 ⟨by rw [e9]; exact hD.1, by rw [e9]; exact e0⟩ e1 e2 e3
theorem dz_astU {u0 : Nat} (hu0 : u0 < cn z) {i0 : Nat} (hx : p.tables.exec = Jvm.exec) (hb : c.code = cc) (hK : ke E s) (hD : dz E d z H) (hi0 : i0 < 4) (hS : va_S A H0 H locs) (hA : ∀ q, bl d 59 q → A q) (hdg : decode cc pc = .ok (.iastore, 1))
    (kk : ∀ (H1 : Heap) (locs1 : List Loc), dz E d (upd z (13*u0 + i0 + 64) x) H1 → H1.size = H.size → (∀ q : Nat, ¬ bl d 59 q → H1[q]? = H[q]?) → va_S A H0 H1 locs1 → W p l e R s m args below meth c H1 locs1 cells slots Q (F0 m (pc + 1) ls rest)) : W p l e R s m args below meth c H locs cells slots Q (F0 m pc ls (.int x :: .int (nI i0) :: .ref (d + 2*u0 + 20) :: rest)) := by
  have e9 : cn (upd z (13*u0 + i0 + 64) x) = cn z := cn_u (by omega)
  exact dq_astU (Nat.lt_of_lt_of_le hu0 hD.1) hx hb hK hD.2 hi0 hS hA hdg fun H1 locs1 e0 e1 e2 e3 => kk H1 locs1 ⟨by rw [e9]; exact hD.1, by rw [e9]; exact e0⟩ e1 e2 e3
/-! what makes cells -/
variable {a : Nat}
theorem k_newa {n q : Nat} (hx : p.tables.exec = Jvm.exec) (hb : c.code = cc) (harr : (Cond.arrayClass .int).before args s = true) (hK : ke E s) (hS : va_S A H0 H locs) (hn : n < 2 ^ 20) (hcells : cells + 1 ≤ R.cells) (hslots : slots + n ≤ R.slots) (hq : H.size = q) (hdg : decode cc pc = .ok (.newarray .int, 2))
    (kk : ∀ (H1 : Heap), va_at E.1 vwCl (q, .inl (E.2 0, n, .inl (fun _ => 0))) H1 → H1.size = q + 1 → (∀ x : Nat, x < q → H1[x]? = H[x]?) → va_S A H0 H1 locs → W p l e R s m args below meth c H1 locs (cells + 1) (slots + n) Q (F0 m (pc + 2) ls (.ref q :: rest))) : W p l e R s m args below meth c H locs cells slots Q (F0 m pc ls (.int (nI n) :: rest)) := by
  subst hq
  refine va_newaK (atype := .int) hx hb harr rfl hdg rfl (nI_pos (by omega)) (nI_clamp (by omega)) (show n * 4 ≤ 536870912 by omega) hcells hslots rfl fun H1 cA e1 z1 o1 hAr hNm => ?_
  have hk := (hK.1.2 0 (E.2 0, .int) rfl).2
  have e9 : cA = E.2 0 := Option.some.inj (hNm.symm.trans hk)
  subst e9
  refine kk H1 ?_ z1 o1 ⟨Nat.le_trans hS.1 (by omega), fun x h1 h2 => (o1 x (Nat.lt_of_lt_of_le h1 hS.1)).trans (hS.2.1 x h1 h2), hS.2.2⟩
  show H1[H.size]? = some (vp_cell _ _)
  rw [vp_cell_i]
  exact e1
theorem k_newq {C : String} {t index n q : Nat} (S : CallFix p m c cc nL s args Ts own) (hclink : Cond.classLink own index C ∈ Ts) (hC : C ∈ [RX1, RX3, RX4, RX5]) (hK : ke E s) (ht : (ke_T E)[t]? = some (E.2 t, .object C)) (hS : va_S A H0 H locs) (hn : n < 2 ^ 20) (hcells : cells + 1 ≤ R.cells) (hslots : slots + n ≤ R.slots) (hq : H.size = q) (hdg : decode cc pc = .ok (.anewarray index, 3))
    (kk : ∀ (H1 : Heap), va_at E.1 vwCl (q, .inl (E.2 t, n, .inr (.inr (.inr (.inr (fun _ => none)))))) H1 → H1.size = q + 1 → (∀ x : Nat, x < q → H1[x]? = H[x]?) → va_S A H0 H1 locs → W p l e R s m args below meth c H1 locs (cells + 1) (slots + n) Q (F0 m (pc + 3) ls (.ref q :: rest))) : W p l e R s m args below meth c H locs cells slots Q (F0 m pc ls (.int (nI n) :: rest)) := by
  subst hq
  have hc9 : (nI n).toNatClampNeg = n := nI_clamp (by omega)
  refine W.anew S.1 S.2.1 S.2.2.2.1 (S.2.2.2.2 _ hclink) (va_AO.use (hK.2.2 C hC)) rfl hdg rfl (nI_pos (by omega)) (by rw [hc9]; omega) hcells (by rw [hc9]; exact hslots) fun cA kA comp f1 f2 f3 f4 => ?_
  rw [hc9]
  obtain ⟨kB, comp2, g1, g2, g3, g4⟩ := (hK.1.2 t _ ht).2
  have e9 : cA = E.2 t := Option.some.inj (f1.symm.trans g4)
  subst e9
  generalize hH1 : H.push ({ cls := E.2 t, slots := Array.replicate n .null, vm := .none } : Cell) = H1
  have z1 : H1.size = H.size + 1 := by rw [← hH1, Array.size_push]
  have e1 : H1[H.size]? = some (arrV (E.2 t) n (fun _ => .null)) := by rw [← hH1, Array.getElem?_push_size, ← arrV_new]
  have o1 : ∀ x : Nat, x < H.size → H1[x]? = H[x]? := fun x hx => by rw [← hH1, Array.getElem?_push, if_neg (Nat.ne_of_lt hx)]
  refine kk H1 ?_ z1 o1 ⟨Nat.le_trans hS.1 (by omega), fun x h1 h2 => (o1 x (Nat.lt_of_lt_of_le h1 hS.1)).trans (hS.2.1 x h1 h2), hS.2.2⟩
  show H1[H.size]? = some (vp_cell _ _)
  rw [vp_cell_q]
  exact e1
theorem k_new {C : String} {T : u_T} {N ci index q : Nat} (S : CallFix p m c cc nL s args Ts own) (hin : ∀ w ∈ u_ws C T N, w ∈ Ts) {ty : Nat → FieldType} (hty : ∀ k, k < N → parseFieldDescriptor (T k).2.2.1 = some (ty k)) (hcl : Cond.classLink own index C ∈ Ts) (hinst : Cond.instantiable C N ∈ Ts) (hini : Cond.initialized C ∈ Ts) (hK : ke E s) (hS : va_S A H0 H locs) (hc : vwCl[ci]? = some (C, T, N)) {fs : List Value} (hfs : ∀ j, j < N → defaultValue (ty j) = vp_V fs j) (hcells : cells + 1 ≤ R.cells) (hslots : slots + N ≤ R.slots) (hq : H.size = q) (hdg : decode cc pc = .ok (.new index, 3))
    (kk : ∀ (H1 : Heap), va_at E.1 vwCl (q, .inr (ci, fs)) H1 → H1.size = q + 1 → (∀ x : Nat, x < q → H1[x]? = H[x]?) → va_S A H0 H1 locs → W p l e R s m args below meth c H1 locs (cells + 1) (slots + N) Q (F0 m (pc + 3) ls (.ref q :: rest))) : W p l e R s m args below meth c H locs cells slots Q (F0 m pc ls rest) := by
  subst hq
  have hKn := hK.1.1 ci _ hc
  refine W.newcK S.1 S.2.1 S.2.2.2.1 (S.2.2.2.2 _ hcl) (S.2.2.2.2 _ hinst) (S.2.2.2.2 _ hini) rfl hdg hcells hslots hKn.2.1 rfl fun H1 kC hkC e1 z1 o1 => ?_
  exact kk H1 ⟨_, hc, (u_born ty S.2.2.2.2 hin hKn hkC e1 hty).to hfs⟩ z1 o1 ⟨Nat.le_trans hS.1 (by omega), fun x h1 h2 => (o1 x (Nat.lt_of_lt_of_le h1 hS.1)).trans (hS.2.1 x h1 h2), hS.2.2⟩
theorem k_putF {ref C : String} {T : u_T} {N ci index : Nat} {fs : List Value} (S : CallFix p m c cc nL s args Ts own) (hK : ke E s) (hat : va_at E.1 vwCl (a, .inr (ci, fs)) H) (hc : vwCl[ci]? = some (C, T, N)) (hin : ∀ w ∈ u_ws C T N, w ∈ Ts) {ty0 : Nat → FieldType} (hty : ∀ k, k < N → parseFieldDescriptor (T k).2.2.1 = some (ty0 k)) (hnm : ∀ a, a < N → ∀ b, b < N → a ≠ b → (T a).2.1 ≠ (T b).2.1) (k : Nat) (hk : k < N) (hlink : Cond.fieldLink own index ref (T k).2.1 (T k).2.2.1 ∈ Ts) (href : (T k).1 = ref) (hown : ref = own) (hfin : (T k).2.2.2 = true) (hin2 : meth.name = "<init>") {v : Value} (hn : narrow (ty0 k) v = v) (hfit : fits (ty0 k) v = true) (hl : k < fs.length) (hS : va_S A H0 H locs) (hA : A a) (hdg : decode cc pc = .ok (.putfield index, 3))
    (kk : ∀ (H1 : Heap) (locs1 : List Loc), va_at E.1 vwCl (a, .inr (ci, fs.set k v)) H1 → H1.size = H.size → (∀ q : Nat, q ≠ a → H1[q]? = H[q]?) → va_S A H0 H1 locs1 → W p l e R s m args below meth c H1 locs1 cells slots Q (F0 m (pc + 3) ls rest)) : W p l e R s m args below meth c H locs cells slots Q (F0 m pc ls (v :: .ref a :: rest)) := by
  have hap := va_apart (own := own) S.2.2.2.2 hin ty0 hty hnm hK.1 hc
  obtain ⟨r, h1, cell, q1, q2, q3, q4⟩ := hat
  have hr : r = (C, T, N) := Option.some.inj (h1.symm.trans hc)
  subst hr
  obtain ⟨hSl, hfc, kC, hkC, hkind⟩ := hK.1.1 ci _ hc
  obtain ⟨cf, kf, fi, f, hi, hsl⟩ := hSl k hk
  have hlay := S.2.2.2.2 _ (hin _ (u_in_lay hk))
  unfold u_lay at hlay
  rw [if_pos hfin] at hlay
  have hst := (u_facts hfc hkC (u_lays S.2.2.2.2 hin hk) hi).1
  have hcf : m.cls = cf := by
    obtain ⟨_, _, c', _, _, _, -, -, hf', -, -, -, hown2, -⟩ := Cond.laysFinal_spec hlay
    have e1 : c' = cf := by have := hi.symm.trans hf'; simp at this; exact this.1.symm
    rw [href, hown] at hown2
    rw [← e1]; exact Option.some.inj (S.2.2.2.1.symm.trans hown2)
  have h6 := u_fits hfc hkC hkind (Or.inr hlay) hi (hty k hk) hn hfit
  refine W.putFinK S.1 S.2.1 S.2.2.2.1 (S.2.2.2.2 _ hlink) (show s.fieldFound? ref _ _ = some (cf, kf, fi, f) by rw [← href]; exact hi) hst hcf hin2 (by rw [q2]; exact h6) q1 q3 (by rw [hsl]; exact k2_hasslot (q4 k hk)) rfl rfl hdg fun H' e1 e2 e3 => ?_
  rw [hsl] at e1 ⊢
  exact kk H' _ ⟨_, hc, t_OB.to (V := updV (vp_V fs) k v) ⟨_, e1, q2, q3, t_set q4 hap hk v⟩ (fun j _ => vp_updV_set hl v j)⟩ e2 e3 (hS.put e2 e3 hA)
theorem k_aast {t n v ci i : Nat} {r : vw_C} {vs : List Value} {f : Nat → Option Nat} (hx : p.tables.exec = Jvm.exec) (hb : c.code = cc) (hK : ke E s) (hat : va_at E.1 vwCl (a, .inl (E.2 t, n, .inr (.inr (.inr (.inr f))))) H) (ht : (ke_T E)[t]? = some (E.2 t, .object r.1)) (hv : va_at E.1 vwCl (v, .inr (ci, vs)) H) (hc : vwCl[ci]? = some r) (hi : i < n) (hn : n < 2 ^ 20) (hS : va_S A H0 H locs) (hA : A a) (hdg : decode cc pc = .ok (.aastore, 1))
    (kk : ∀ (H1 : Heap) (locs1 : List Loc), va_at E.1 vwCl (a, .inl (E.2 t, n, .inr (.inr (.inr (.inr (va_up f i (some v))))))) H1 → H1.size = H.size → (∀ q : Nat, q ≠ a → H1[q]? = H[q]?) → va_S A H0 H1 locs1 → W p l e R s m args below meth c H1 locs1 cells slots Q (F0 m (pc + 1) ls rest)) : W p l e R s m args below meth c H locs cells slots Q (F0 m pc ls (.ref v :: .int (nI i) :: .ref a :: rest)) := by
  have hin := vp_in_nI hi (by omega : n < 2 ^ 31)
  have hck := nI_clamp (n := i) (by omega)
  have hlt : (nI i).toNatClampNeg < n := by rw [hck]; exact hi
  have h0 : ¬ nI i < 0 := fun q => hin (Or.inl q)
  obtain ⟨r', hr', cellV, g1, g2, g3, -⟩ := hv
  have hcls := (hK.1.1 ci r hc).2
  obtain ⟨kA, comp, k1, k2, k3, -⟩ := (hK.1.2 t _ ht).2
  have hcomp : comp = E.1.1 ci := Option.some.inj (k3.symm.trans hcls.1)
  subst hcomp
  obtain ⟨kC, hkC, -⟩ := hcls.2
  refine W.aast hx hb hat (fun q h => by cases h) (fun h => by cases h) k1 k2 rfl hkC ⟨h0, by show _ < (arrV _ _ _).slots.size; rw [arrV_size]; exact hlt⟩ g1 (fun q h => by rw [g3] at h; cases h) (by rw [g2]; exact hkC) (by rw [g2]; exact va_assign hcls) rfl rfl hdg fun H1 e z oq => ?_
  refine kk H1 _ ?_ z oq (hS.put z oq hA)
  show H1[a]? = some (vp_cell _ _)
  rw [e]
  rw [vp_cell_q, vp_cell_q, arrV_store]
  congr 2
  funext q
  rw [hck]
  by_cases hq : q = i
  · subst hq
    simp [updV, va_up, va_rf]
  · simp [updV, va_up, hq]
theorem k_oi {index : Nat} (S : CallFix p m c cc nL s args Ts own) (hlk : Cond.methodLink own index objectInit ∈ Ts) (him : Cond.instanceMethod objectInit ∈ Ts) (hcd : Cond.code objectInit ⟨#[0xb1]⟩ 1 none ∈ Ts) (hsz : ls.size = nL) (hdg : decode cc pc = .ok (.invokespecial index, 3)) (hf : 1 ≤ R.frames) (hl : (rest.map fun v => v.category).sum + 12 ≤ R.locals)
    (kk : W p l e R s m args below meth c H locs cells slots Q (F0 m (pc + 3) ls rest)) : W p l e R s m args below meth c H locs cells slots Q (F0 m pc ls (.ref a :: rest)) :=
  W.objInit S.1 S.2.1 S.2.2.2.1 (S.2.2.2.2 _ hlk) (S.2.2.2.2 _ him) (S.2.2.2.2 _ hcd) rfl (by rw [S.2.2.1]; exact hsz) rfl hdg hf (by show 2 * 0 + _ + _ ≤ _; omega) kk
end DZR
