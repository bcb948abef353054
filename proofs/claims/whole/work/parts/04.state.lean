/-! ===== the state in words: a row z of numbers, in the reference's order, read for both sides ===== -/
def cn (z : Nat → Int32) : Nat := (z 0).toNatClampNeg
def up (z : Nat → Int32) (u : Nat) : Nat := (z (13*u + 62)).toNatClampNeg
def ur (z : Nat → Int32) (u : Nat) : Nat := (z (13*u + 63)).toNatClampNeg
def ub (z : Nat → Int32) (u : Nat) : Nat := (z (13*u + 71)).toNatClampNeg
def pv (z : Nat → Int32) (i : Nat) : Nat := (z (3*i + 13)).toNatClampNeg
def pd (z : Nat → Int32) : Nat := (z 10).toNatClampNeg
def rg (x : Int32) (lo hi : Int) : Prop := lo ≤ x.toInt ∧ x.toInt ≤ hi
/-- what a unit's numbers may be -/
def iu (z : Nat → Int32) (u : Nat) : Prop := rg (z (13*u + 62)) 0 5 ∧ rg (z (13*u + 63)) 0 3 ∧ (rg (z (13*u + 64)) (-1) 9 ∧ rg (z (13*u + 65)) (-1) 9 ∧ rg (z (13*u + 66)) (-1) 9 ∧ rg (z (13*u + 67)) (-1) 9) ∧ rg (z (13*u + 68)) 0 4 ∧ rg (z (13*u + 70)) (-1) 9999 ∧ rg (z (13*u + 71)) 0 3 ∧ rg (z (13*u + 72)) 0 1 ∧ (z (13*u + 68) = nI 1 → 0 ≤ (z (13*u + 64)).toInt ∧ 0 ≤ (z (13*u + 65)).toInt ∧ 0 ≤ (z (13*u + 66)).toInt ∧ 0 ≤ (z (13*u + 67)).toInt)
/-- what the numbers may be -/
def iv (z : Nat → Int32) : Prop := rg (z 0) 0 20 ∧ rg (z 10) 1 5 ∧ rg (z 11) 0 20 ∧ (∀ i, i < 6 → rg (z (3*i + 12)) 1 9999 ∧ rg (z (3*i + 13)) 0 3 ∧ rg (z (3*i + 14)) 0 1) ∧ (∀ v r, v < 4 → r < 4 → rg (z (8*v + r + 34)) 0 100) ∧ ∀ u, u < cn z → iu z u
theorem rg_n {x : Int32} {lo hi : Int} (h : rg x lo hi) (h0 : 0 ≤ lo) : x = nI x.toNatClampNeg ∧ (x.toNatClampNeg : Int) = x.toInt := by
  have h1 : 0 ≤ x.toInt := Int.le_trans h0 h.1
  have h2 : x.toInt < 2 ^ 31 := Int32.toInt_lt x
  have h3 : x.toNatClampNeg = x.toInt.toNat := rfl
  refine ⟨?_, by rw [h3]; omega⟩
  apply Int32.toInt_inj.mp
  rw [nI_toInt (by omega), h3]
  omega
theorem iv_n {z : Nat → Int32} (h : iv z) : z 0 = nI (cn z) := (rg_n h.1 (by decide)).1
theorem iv_c {z : Nat → Int32} (h : iv z) : cn z ≤ 20 := by
  have h1 := (rg_n h.1 (by decide)).2
  have h2 := h.1.2
  unfold cn
  omega
theorem iv_pd {z : Nat → Int32} (h : iv z) : z 10 = nI (pd z) := (rg_n h.2.1 (by decide)).1
theorem iv_pd1 {z : Nat → Int32} (h : iv z) : 1 ≤ pd z ∧ pd z ≤ 5 := by
  have h1 := (rg_n h.2.1 (by decide)).2
  have h2 := h.2.1
  unfold rg at h2
  unfold pd
  omega
theorem iv_u {z : Nat → Int32} (h : iv z) {u : Nat} (hu : u < cn z) : iu z u := h.2.2.2.2.2 u hu
theorem iv_up {z : Nat → Int32} (h : iv z) {u : Nat} (hu : u < cn z) : z (13*u + 62) = nI (up z u) := (rg_n (iv_u h hu).1 (by decide)).1
theorem iv_upl {z : Nat → Int32} (h : iv z) {u : Nat} (hu : u < cn z) : up z u < 6 := by
  have h1 := (rg_n (iv_u h hu).1 (by decide)).2
  have h2 := (iv_u h hu).1.2
  unfold up
  omega
theorem iv_ur {z : Nat → Int32} (h : iv z) {u : Nat} (hu : u < cn z) : z (13*u + 63) = nI (ur z u) := (rg_n (iv_u h hu).2.1 (by decide)).1
theorem iv_url {z : Nat → Int32} (h : iv z) {u : Nat} (hu : u < cn z) : ur z u < 4 := by
  have h1 := (rg_n (iv_u h hu).2.1 (by decide)).2
  have h2 := (iv_u h hu).2.1.2
  unfold ur
  omega
theorem iv_ub {z : Nat → Int32} (h : iv z) {u : Nat} (hu : u < cn z) : z (13*u + 71) = nI (ub z u) := (rg_n (iv_u h hu).2.2.2.2.2.1 (by decide)).1
theorem iv_ubl {z : Nat → Int32} (h : iv z) {u : Nat} (hu : u < cn z) : ub z u < 4 := by
  have h1 := (rg_n (iv_u h hu).2.2.2.2.2.1 (by decide)).2
  have h2 := (iv_u h hu).2.2.2.2.2.1.2
  unfold ub
  omega
theorem iv_pv {z : Nat → Int32} (h : iv z) {i : Nat} (hi : i < 6) : z (3*i + 13) = nI (pv z i) := (rg_n (h.2.2.2.1 i hi).2.1 (by decide)).1
theorem iv_pvl {z : Nat → Int32} (h : iv z) {i : Nat} (hi : i < 6) : pv z i < 4 := by
  have h1 := (rg_n (h.2.2.2.1 i hi).2.1 (by decide)).2
  have h2 := (h.2.2.2.1 i hi).2.1.2
  unfold pv
  omega
/-! the reference's world -/
/-- rows, aside, buffer, read; savedMany, bufferMany, thrown, place, told; h -/
abbrev md_w : Type := (Nat → Int32) × (Nat → Int32) × (Nat → Int32) × (Nat → Int32) × Int32 × Int32 × Int32 × Int32 × Int32 × Int64
def q_rows (w : md_w) : Nat → Int32 := w.1
def q_aside (w : md_w) : Nat → Int32 := w.2.1
def q_buf (w : md_w) : Nat → Int32 := w.2.2.1
def q_rd (w : md_w) : Nat → Int32 := w.2.2.2.1
def q_sm (w : md_w) : Int32 := w.2.2.2.2.1
def q_bm (w : md_w) : Int32 := w.2.2.2.2.2.1
def q_th (w : md_w) : Int32 := w.2.2.2.2.2.2.1
def q_pl (w : md_w) : Int32 := w.2.2.2.2.2.2.2.1
def q_td (w : md_w) : Int32 := w.2.2.2.2.2.2.2.2.1
def q_h (w : md_w) : Int64 := w.2.2.2.2.2.2.2.2.2
def w_rows (w : md_w) (f : Nat → Int32) : md_w := (f, w.2)
def w_aside (w : md_w) (f : Nat → Int32) : md_w := (w.1, f, w.2.2)
def w_buf (w : md_w) (f : Nat → Int32) : md_w := (w.1, w.2.1, f, w.2.2.2)
def w_rd (w : md_w) (f : Nat → Int32) : md_w := (w.1, w.2.1, w.2.2.1, f, w.2.2.2.2)
def w_sm (w : md_w) (x : Int32) : md_w := (w.1, w.2.1, w.2.2.1, w.2.2.2.1, x, w.2.2.2.2.2)
def w_bm (w : md_w) (x : Int32) : md_w := (w.1, w.2.1, w.2.2.1, w.2.2.2.1, w.2.2.2.2.1, x, w.2.2.2.2.2.2)
def w_th (w : md_w) (x : Int32) : md_w := (w.1, w.2.1, w.2.2.1, w.2.2.2.1, w.2.2.2.2.1, w.2.2.2.2.2.1, x, w.2.2.2.2.2.2.2)
def w_pl (w : md_w) (x : Int32) : md_w := (w.1, w.2.1, w.2.2.1, w.2.2.2.1, w.2.2.2.2.1, w.2.2.2.2.2.1, w.2.2.2.2.2.2.1, x, w.2.2.2.2.2.2.2.2)
def w_td (w : md_w) (x : Int32) : md_w := (w.1, w.2.1, w.2.2.1, w.2.2.2.1, w.2.2.2.2.1, w.2.2.2.2.2.1, w.2.2.2.2.2.2.1, w.2.2.2.2.2.2.2.1, x, w.2.2.2.2.2.2.2.2.2)
def w_h (w : md_w) (x : Int64) : md_w := (w.1, w.2.1, w.2.2.1, w.2.2.2.1, w.2.2.2.2.1, w.2.2.2.2.2.1, w.2.2.2.2.2.2.1, w.2.2.2.2.2.2.2.1, w.2.2.2.2.2.2.2.2.1, x)
def md_F (o : Nat) (w : md_w) : List Value := [.ref (o + 1), .ref (o + 2), .ref (o + 3), .int (q_sm w), .ref (o + 4), .int (q_bm w), .int (q_th w), .int (q_pl w), .int (q_td w), .ref (o + 5), .long (q_h w)]
def md (E : ke_E) (o : Nat) (z : Nat → Int32) (w : md_w) (H : Heap) : Prop := va_at E.1 vwCl (o, .inr (7, md_F o w)) H ∧ va_at E.1 vwCl (o + 1, .inl (E.2 0, 322, .inl z)) H ∧ va_at E.1 vwCl (o + 2, .inl (E.2 0, 1932, .inl (q_rows w))) H ∧ va_at E.1 vwCl (o + 3, .inl (E.2 0, 322, .inl (q_aside w))) H ∧ va_at E.1 vwCl (o + 4, .inl (E.2 0, 60, .inl (q_buf w))) H ∧ va_at E.1 vwCl (o + 5, .inl (E.2 0, 96, .inl (q_rd w))) H
theorem md_fr {E : ke_E} {o : Nat} {z : Nat → Int32} {w : md_w} {H H1 : Heap} (h : md E o z w H) (hq : ∀ q : Nat, bl o 6 q → H1[q]? = H[q]?) : md E o z w H1 := by
  obtain ⟨h0, h1, h2, h3, h4, h5⟩ := h
  refine ⟨h0.kept (hq _ ?_), h1.kept (hq _ ?_), h2.kept (hq _ ?_), h3.kept (hq _ ?_), h4.kept (hq _ ?_), h5.kept (hq _ ?_)⟩ <;> exact ⟨by omega, by omega⟩
section MD
variable {p : Program} {l : Launch} {e : Env} {R : Room} {s : State} {m : MethodId} {args : Array Value} {below : List Frame} {meth : Method} {c : Code} {H : Heap} {locs : List Loc} {cells slots : Nat} {Q : State → Prop}
variable {cc : ByteArray} {pc nL : Nat} {ls : Array Slot} {rest st0 : List Value} {E : ke_E} {Ts : List Cond} {A : Nat → Prop} {H0 : Heap}
variable {o : Nat} {z : Nat → Int32} {w : md_w}
theorem md_put {index : Nat} {v : Value} {w' : md_w} (S : CallFix p m c cc nL s args Ts RX7) (hK : ke E s) (hM : md E o z w H) (hin : ∀ w ∈ wsX70, w ∈ Ts) (k : Nat) (hk : k < 11) (hlink : Cond.fieldLink RX7 index RX7 (TX7 k).2.1 (TX7 k).2.2.1 ∈ Ts) (href : (TX7 k).1 = RX7) (hfin : (TX7 k).2.2.2 = false) (hn : narrow (tyX7 k) v = v) (hfit : fits (tyX7 k) v = true) (hF : (md_F o w).set k v = md_F o w') (h1 : q_rows w' = q_rows w) (h2 : q_aside w' = q_aside w) (h3 : q_buf w' = q_buf w) (h4 : q_rd w' = q_rd w) (hS : va_S A H0 H locs) (hA : ∀ q, bl o 6 q → A q) (hdg : decode cc pc = .ok (.putfield index, 3))
    (kk : ∀ (H1 : Heap) (locs1 : List Loc), md E o z w' H1 → H1.size = H.size → (∀ q : Nat, ¬ bl o 6 q → H1[q]? = H[q]?) → va_S A H0 H1 locs1 → W p l e R s m args below meth c H1 locs1 cells slots Q (F0 m (pc + 3) ls rest)) : W p l e R s m args below meth c H locs cells slots Q (F0 m pc ls (v :: .ref o :: rest)) := by
  obtain ⟨g0, g1, g2, g3, g4, g5⟩ := hM
  refine k_put S hK g0 rfl hin tyX7_ok nmX7 k hk hlink href hfin hn hfit (by simpa [md_F] using hk) hS (hA o ⟨by omega, by omega⟩) hdg fun H1 locs1 e0 e1 e2 e3 => ?_
  refine kk H1 locs1 ⟨by rw [← hF]; exact e0, g1.kept (e2 _ (by simp)), by rw [h1]; exact g2.kept (e2 _ (by simp)), by rw [h2]; exact g3.kept (e2 _ (by simp)), by rw [h3]; exact g4.kept (e2 _ (by simp)), by rw [h4]; exact g5.kept (e2 _ (by simp))⟩ e1 (fun q hq => e2 q (fun h => hq (by subst h; exact ⟨by omega, by omega⟩))) e3
theorem md_ast_z {i : Nat} {x : Int32} (hx : p.tables.exec = Jvm.exec) (hb : c.code = cc) (hK : ke E s) (hM : md E o z w H) (hi : i < 322) (hS : va_S A H0 H locs) (hA : ∀ q, bl o 6 q → A q) (hdg : decode cc pc = .ok (.iastore, 1))
    (kk : ∀ (H1 : Heap) (locs1 : List Loc), md E o (upd z i x) (w) H1 → H1.size = H.size → (∀ q : Nat, ¬ bl o 6 q → H1[q]? = H[q]?) → va_S A H0 H1 locs1 → W p l e R s m args below meth c H1 locs1 cells slots Q (F0 m (pc + 1) ls rest)) : W p l e R s m args below meth c H locs cells slots Q (F0 m pc ls (.int x :: .int (nI i) :: .ref (o + 1) :: rest)) := by
  obtain ⟨g0, g1, g2, g3, g4, g5⟩ := hM
  refine k_iast hx hb hK g1 hi (by decide) hS (hA _ ⟨by omega, by omega⟩) hdg fun H1 locs1 e0 e1 e2 e3 => ?_
  exact kk H1 locs1 ⟨g0.kept (e2 _ (by omega)), e0, g2.kept (e2 _ (by omega)), g3.kept (e2 _ (by omega)), g4.kept (e2 _ (by omega)), g5.kept (e2 _ (by omega))⟩ e1 (fun q hq => e2 q (fun h => hq (by subst h; exact ⟨by omega, by omega⟩))) e3
theorem md_ast_rows {i : Nat} {x : Int32} (hx : p.tables.exec = Jvm.exec) (hb : c.code = cc) (hK : ke E s) (hM : md E o z w H) (hi : i < 1932) (hS : va_S A H0 H locs) (hA : ∀ q, bl o 6 q → A q) (hdg : decode cc pc = .ok (.iastore, 1))
    (kk : ∀ (H1 : Heap) (locs1 : List Loc), md E o (z) (w_rows w (upd (q_rows w) i x)) H1 → H1.size = H.size → (∀ q : Nat, ¬ bl o 6 q → H1[q]? = H[q]?) → va_S A H0 H1 locs1 → W p l e R s m args below meth c H1 locs1 cells slots Q (F0 m (pc + 1) ls rest)) : W p l e R s m args below meth c H locs cells slots Q (F0 m pc ls (.int x :: .int (nI i) :: .ref (o + 2) :: rest)) := by
  obtain ⟨g0, g1, g2, g3, g4, g5⟩ := hM
  refine k_iast hx hb hK g2 hi (by decide) hS (hA _ ⟨by omega, by omega⟩) hdg fun H1 locs1 e0 e1 e2 e3 => ?_
  exact kk H1 locs1 ⟨g0.kept (e2 _ (by omega)), g1.kept (e2 _ (by omega)), e0, g3.kept (e2 _ (by omega)), g4.kept (e2 _ (by omega)), g5.kept (e2 _ (by omega))⟩ e1 (fun q hq => e2 q (fun h => hq (by subst h; exact ⟨by omega, by omega⟩))) e3
theorem md_ast_aside {i : Nat} {x : Int32} (hx : p.tables.exec = Jvm.exec) (hb : c.code = cc) (hK : ke E s) (hM : md E o z w H) (hi : i < 322) (hS : va_S A H0 H locs) (hA : ∀ q, bl o 6 q → A q) (hdg : decode cc pc = .ok (.iastore, 1))
    (kk : ∀ (H1 : Heap) (locs1 : List Loc), md E o (z) (w_aside w (upd (q_aside w) i x)) H1 → H1.size = H.size → (∀ q : Nat, ¬ bl o 6 q → H1[q]? = H[q]?) → va_S A H0 H1 locs1 → W p l e R s m args below meth c H1 locs1 cells slots Q (F0 m (pc + 1) ls rest)) : W p l e R s m args below meth c H locs cells slots Q (F0 m pc ls (.int x :: .int (nI i) :: .ref (o + 3) :: rest)) := by
  obtain ⟨g0, g1, g2, g3, g4, g5⟩ := hM
  refine k_iast hx hb hK g3 hi (by decide) hS (hA _ ⟨by omega, by omega⟩) hdg fun H1 locs1 e0 e1 e2 e3 => ?_
  exact kk H1 locs1 ⟨g0.kept (e2 _ (by omega)), g1.kept (e2 _ (by omega)), g2.kept (e2 _ (by omega)), e0, g4.kept (e2 _ (by omega)), g5.kept (e2 _ (by omega))⟩ e1 (fun q hq => e2 q (fun h => hq (by subst h; exact ⟨by omega, by omega⟩))) e3
theorem md_ast_buf {i : Nat} {x : Int32} (hx : p.tables.exec = Jvm.exec) (hb : c.code = cc) (hK : ke E s) (hM : md E o z w H) (hi : i < 60) (hS : va_S A H0 H locs) (hA : ∀ q, bl o 6 q → A q) (hdg : decode cc pc = .ok (.iastore, 1))
    (kk : ∀ (H1 : Heap) (locs1 : List Loc), md E o (z) (w_buf w (upd (q_buf w) i x)) H1 → H1.size = H.size → (∀ q : Nat, ¬ bl o 6 q → H1[q]? = H[q]?) → va_S A H0 H1 locs1 → W p l e R s m args below meth c H1 locs1 cells slots Q (F0 m (pc + 1) ls rest)) : W p l e R s m args below meth c H locs cells slots Q (F0 m pc ls (.int x :: .int (nI i) :: .ref (o + 4) :: rest)) := by
  obtain ⟨g0, g1, g2, g3, g4, g5⟩ := hM
  refine k_iast hx hb hK g4 hi (by decide) hS (hA _ ⟨by omega, by omega⟩) hdg fun H1 locs1 e0 e1 e2 e3 => ?_
  exact kk H1 locs1 ⟨g0.kept (e2 _ (by omega)), g1.kept (e2 _ (by omega)), g2.kept (e2 _ (by omega)), g3.kept (e2 _ (by omega)), e0, g5.kept (e2 _ (by omega))⟩ e1 (fun q hq => e2 q (fun h => hq (by subst h; exact ⟨by omega, by omega⟩))) e3
theorem md_ast_rd {i : Nat} {x : Int32} (hx : p.tables.exec = Jvm.exec) (hb : c.code = cc) (hK : ke E s) (hM : md E o z w H) (hi : i < 96) (hS : va_S A H0 H locs) (hA : ∀ q, bl o 6 q → A q) (hdg : decode cc pc = .ok (.iastore, 1))
    (kk : ∀ (H1 : Heap) (locs1 : List Loc), md E o (z) (w_rd w (upd (q_rd w) i x)) H1 → H1.size = H.size → (∀ q : Nat, ¬ bl o 6 q → H1[q]? = H[q]?) → va_S A H0 H1 locs1 → W p l e R s m args below meth c H1 locs1 cells slots Q (F0 m (pc + 1) ls rest)) : W p l e R s m args below meth c H locs cells slots Q (F0 m pc ls (.int x :: .int (nI i) :: .ref (o + 5) :: rest)) := by
  obtain ⟨g0, g1, g2, g3, g4, g5⟩ := hM
  refine k_iast hx hb hK g5 hi (by decide) hS (hA _ ⟨by omega, by omega⟩) hdg fun H1 locs1 e0 e1 e2 e3 => ?_
  exact kk H1 locs1 ⟨g0.kept (e2 _ (by omega)), g1.kept (e2 _ (by omega)), g2.kept (e2 _ (by omega)), g3.kept (e2 _ (by omega)), g4.kept (e2 _ (by omega)), e0⟩ e1 (fun q hq => e2 q (fun h => hq (by subst h; exact ⟨by omega, by omega⟩))) e3
end MD
/-! a desk's world: 59 cells from d on -/
def dk_F (d : Nat) (z : Nat → Int32) : List Value := [.ref (d + 1), .ref (d + 2), .ref (d + 3), .ref (d + 4), .int (z 0), .int (z 1), .int (z 5)]
def pr_F (i : Nat) (z : Nat → Int32) : List Value := [.int (z (3*i + 12)), .int (z (3*i + 13)), .int (z (3*i + 14))]
def ve_F (d v : Nat) (z : Nat → Int32) : List Value := [.ref (d + 2*v + 12), .int (z (8*v + 30)), .int (z (8*v + 31)), .int (z (8*v + 32)), .int (z (8*v + 33))]
def un_F (d u : Nat) (z : Nat → Int32) : List Value := [.ref (d + 2*u + 20), .int (z (13*u + 62)), .int (z (13*u + 63)), .int (z (13*u + 68)), .int (z (13*u + 69)), .int (z (13*u + 70)), .int (z (13*u + 71)), .int (z (13*u + 72)), .int (z (13*u + 73)), .int (z (13*u + 74))]
abbrev rfs (n : Nat) (f : Nat → Nat) : vp_A := (n, .inr (.inr (.inr (.inr (fun i => some (f i))))))
def dp (E : ke_E) (d : Nat) (z : Nat → Int32) (H : Heap) : Prop := va_at E.1 vwCl (d, .inr (1, dk_F d z)) H ∧ va_at E.1 vwCl (d + 1, .inl (E.2 1, rfs 6 (fun i => d + i + 5))) H ∧ va_at E.1 vwCl (d + 2, .inl (E.2 2, rfs 4 (fun v => d + 2*v + 11))) H ∧ va_at E.1 vwCl (d + 3, .inl (E.2 3, rfs 20 (fun u => d + 2*u + 19))) H ∧ va_at E.1 vwCl (d + 4, .inl (E.2 0, 5, .inl (fun k => z (k + 7)))) H ∧ (∀ i, i < 6 → va_at E.1 vwCl (d + i + 5, .inr (3, pr_F i z)) H) ∧ (∀ v, v < 4 → va_at E.1 vwCl (d + 2*v + 11, .inr (5, ve_F d v z)) H) ∧ (∀ v, v < 4 → va_at E.1 vwCl (d + 2*v + 12, .inl (E.2 0, 4, .inl (fun r => z (8*v + r + 34)))) H) ∧ (∀ u, u < 20 → va_at E.1 vwCl (d + 2*u + 19, .inr (4, un_F d u z)) H) ∧ ∀ u, u < 20 → va_at E.1 vwCl (d + 2*u + 20, .inl (E.2 0, 4, .inl (fun t => z (13*u + t + 64)))) H
theorem dp_fr {E : ke_E} {d : Nat} {z : Nat → Int32} {H H1 : Heap} (h : dp E d z H) (hq : ∀ q : Nat, bl d 59 q → H1[q]? = H[q]?) : dp E d z H1 := by
  obtain ⟨h0, h1, h2, h3, h4, h5, h6, h7, h8, h9⟩ := h
  exact ⟨h0.kept (hq _ ⟨by simp, by simp⟩), h1.kept (hq _ ⟨by simp, by simp⟩), h2.kept (hq _ ⟨by simp, by simp⟩), h3.kept (hq _ ⟨by simp, by simp⟩), h4.kept (hq _ ⟨by simp, by simp⟩), fun i hi => (h5 i hi).kept (hq _ ⟨by simp; omega, by simp; omega⟩), fun i hi => (h6 i hi).kept (hq _ ⟨by simp; omega, by simp; omega⟩), fun i hi => (h7 i hi).kept (hq _ ⟨by simp; omega, by simp; omega⟩), fun i hi => (h8 i hi).kept (hq _ ⟨by simp; omega, by simp; omega⟩), fun i hi => (h9 i hi).kept (hq _ ⟨by simp; omega, by simp; omega⟩)⟩
theorem dp_arr {cA : ClassId} {n : Nat} {f g : Nat → Int32} (h : ∀ q, q < n → g q = f q) : vp_cell cA (n, .inl f) = vp_cell cA (n, .inl g) := by
  rw [vp_cell_i, vp_cell_i]
  unfold arrV
  congr 1
  apply Array.ext
  · simp
  · intro i h1 h2
    have hi : i < n := by simpa using h1
    simp [h i hi]
/-- one cell a and one number at pos changed -/
theorem dp_up {E : ke_E} {d pos a : Nat} {z z' : Nat → Int32} {H H1 : Heap} (h : dp E d z H) (hH : ∀ q : Nat, q ≠ a → H1[q]? = H[q]?) (hz : ∀ q, q ≠ pos → z' q = z q) (ha : a ≠ d + 1 ∧ a ≠ d + 2 ∧ a ≠ d + 3)
    (c0 : (d ≠ a ∧ pos ≠ 0 ∧ pos ≠ 1 ∧ pos ≠ 5) ∨ va_at E.1 vwCl (d, .inr (1, dk_F d z')) H1)
    (c4 : (d + 4 ≠ a ∧ (pos < 7 ∨ 12 ≤ pos)) ∨ va_at E.1 vwCl (d + 4, .inl (E.2 0, 5, .inl (fun k => z' (k + 7)))) H1)
    (c5 : ∀ i, i < 6 → (d + i + 5 ≠ a ∧ (pos < 3*i + 12 ∨ 3*i + 15 ≤ pos)) ∨ va_at E.1 vwCl (d + i + 5, .inr (3, pr_F i z')) H1)
    (c6 : ∀ v, v < 4 → (d + 2*v + 11 ≠ a ∧ (pos < 8*v + 30 ∨ 8*v + 34 ≤ pos)) ∨ va_at E.1 vwCl (d + 2*v + 11, .inr (5, ve_F d v z')) H1)
    (c7 : ∀ v, v < 4 → (d + 2*v + 12 ≠ a ∧ (pos < 8*v + 34 ∨ 8*v + 38 ≤ pos)) ∨ va_at E.1 vwCl (d + 2*v + 12, .inl (E.2 0, 4, .inl (fun r => z' (8*v + r + 34)))) H1)
    (c8 : ∀ u, u < 20 → (d + 2*u + 19 ≠ a ∧ (pos < 13*u + 62 ∨ 13*u + 75 ≤ pos ∨ (13*u + 64 ≤ pos ∧ pos < 13*u + 68))) ∨ va_at E.1 vwCl (d + 2*u + 19, .inr (4, un_F d u z')) H1)
    (c9 : ∀ u, u < 20 → (d + 2*u + 20 ≠ a ∧ (pos < 13*u + 64 ∨ 13*u + 68 ≤ pos)) ∨ va_at E.1 vwCl (d + 2*u + 20, .inl (E.2 0, 4, .inl (fun t => z' (13*u + t + 64)))) H1) : dp E d z' H1 := by
  obtain ⟨h0, h1, h2, h3, h4, h5, h6, h7, h8, h9⟩ := h
  refine ⟨?_, h1.kept (hH _ ha.1.symm), h2.kept (hH _ ha.2.1.symm), h3.kept (hH _ ha.2.2.symm), ?_, fun i hi => ?_, fun v hv => ?_, fun v hv => ?_, fun u hu => ?_, fun u hu => ?_⟩
  · rcases c0 with ⟨k1, k2⟩ | k
    · rw [show dk_F d z' = dk_F d z by unfold dk_F; rw [hz 0 (by omega), hz 1 (by omega), hz 5 (by omega)]]
      exact h0.kept (hH _ k1)
    · exact k
  · rcases c4 with ⟨k1, k2⟩ | k
    · have h4' := h4.kept (hH _ k1)
      have e9 : ∀ q, q < 5 → z' (q + 7) = z (q + 7) := fun q hq => hz _ (by omega)
      show H1[d + 4]? = _
      refine h4'.trans (congrArg some ?_)
      exact dp_arr e9
    · exact k
  · rcases c5 i hi with ⟨k1, k2⟩ | k
    · rw [show pr_F i z' = pr_F i z by unfold pr_F; rw [hz (3*i + 12) (by omega), hz (3*i + 13) (by omega), hz (3*i + 14) (by omega)]]
      exact (h5 i hi).kept (hH _ k1)
    · exact k
  · rcases c6 v hv with ⟨k1, k2⟩ | k
    · rw [show ve_F d v z' = ve_F d v z by unfold ve_F; rw [hz (8*v + 30) (by omega), hz (8*v + 31) (by omega), hz (8*v + 32) (by omega), hz (8*v + 33) (by omega)]]
      exact (h6 v hv).kept (hH _ k1)
    · exact k
  · rcases c7 v hv with ⟨k1, k2⟩ | k
    · have h4' := (h7 v hv).kept (hH _ k1)
      have e9 : ∀ q, q < 4 → z' (8*v + q + 34) = z (8*v + q + 34) := fun q hq => hz _ (by omega)
      show H1[d + 2*v + 12]? = _
      refine h4'.trans (congrArg some ?_)
      exact dp_arr e9
    · exact k
  · rcases c8 u hu with ⟨k1, k2⟩ | k
    · rw [show un_F d u z' = un_F d u z by unfold un_F; rw [hz (13*u + 62) (by omega), hz (13*u + 63) (by omega), hz (13*u + 68) (by omega), hz (13*u + 69) (by omega), hz (13*u + 70) (by omega), hz (13*u + 71) (by omega), hz (13*u + 72) (by omega), hz (13*u + 73) (by omega), hz (13*u + 74) (by omega)]]
      exact (h8 u hu).kept (hH _ k1)
    · exact k
  · rcases c9 u hu with ⟨k1, k2⟩ | k
    · have h4' := (h9 u hu).kept (hH _ k1)
      have e9 : ∀ q, q < 4 → z' (13*u + q + 64) = z (13*u + q + 64) := fun q hq => hz _ (by omega)
      show H1[d + 2*u + 20]? = _
      refine h4'.trans (congrArg some ?_)
      exact dp_arr e9
    · exact k
theorem upd_s {z : Nat → Int32} {k : Nat} {x : Int32} : upd z k x k = x := by simp [upd]
theorem upd_n {z : Nat → Int32} {k j : Nat} {x : Int32} (h : j ≠ k) : upd z k x j = z j := by simp [upd, h]
section DP
variable {p : Program} {l : Launch} {e : Env} {R : Room} {s : State} {m : MethodId} {args : Array Value} {below : List Frame} {meth : Method} {c : Code} {H : Heap} {locs : List Loc} {cells slots : Nat} {Q : State → Prop}
variable {cc : ByteArray} {pc nL : Nat} {ls : Array Slot} {rest st0 : List Value} {E : ke_E} {Ts : List Cond} {own : String} {A : Nat → Prop} {H0 : Heap}
variable {d : Nat} {z : Nat → Int32} {x : Int32}
theorem dp_putD {index : Nat}  (S : CallFix p m c cc nL s args Ts own) (hK : ke E s) (hD : dp E d z H) (hin : ∀ w ∈ wsX10, w ∈ Ts) (k : Nat) (hk : k < 7) (hlink : Cond.fieldLink own index RX1 (TX1 k).2.1 (TX1 k).2.2.1 ∈ Ts) (href : (TX1 k).1 = RX1) (hfin : (TX1 k).2.2.2 = false) (hn : narrow (tyX1 k) (.int x) = .int x) (hfit : fits (tyX1 k) (.int x) = true) {j : Nat} (hF : (dk_F d z).set k (.int x) = dk_F d (upd z (j) x)) (hj : j = 0 ∨ j = 1 ∨ j = 5) (hS : va_S A H0 H locs) (hA : ∀ q, bl d 59 q → A q) (hdg : decode cc pc = .ok (.putfield index, 3))
    (kk : ∀ (H1 : Heap) (locs1 : List Loc), dp E d (upd z (j) x) H1 → H1.size = H.size → (∀ q : Nat, ¬ bl d 59 q → H1[q]? = H[q]?) → va_S A H0 H1 locs1 → W p l e R s m args below meth c H1 locs1 cells slots Q (F0 m (pc + 3) ls rest)) : W p l e R s m args below meth c H locs cells slots Q (F0 m pc ls (.int x :: .ref (d) :: rest)) := by
  refine k_put S hK (hD.1) rfl hin tyX1_ok nmX1 k hk hlink href hfin hn hfit (by simpa [dk_F] using hk) hS (hA _ ⟨by omega, by omega⟩) hdg fun H1 locs1 e0 e1 e2 e3 => ?_
  rw [hF] at e0
  refine kk H1 locs1 (dp_up (a := d) (pos := j) hD e2 (fun q hq => upd_n hq) ⟨by omega, by omega, by omega⟩ ?_ ?_ (fun i hi => ?_) (fun i hi => ?_) (fun i hi => ?_) (fun i hi => ?_) (fun i hi => ?_)) e1 (fun q hq => e2 q (fun h => hq (by subst h; exact ⟨by omega, by omega⟩))) e3
  · exact Or.inr e0
  · exact Or.inl ⟨by omega, by omega⟩
  · exact Or.inl ⟨by omega, by omega⟩
  · exact Or.inl ⟨by omega, by omega⟩
  · exact Or.inl ⟨by omega, by omega⟩
  · exact Or.inl ⟨by omega, by omega⟩
  · exact Or.inl ⟨by omega, by omega⟩
theorem dp_putP {index : Nat} {i0 : Nat} (hi0 : i0 < 6) (S : CallFix p m c cc nL s args Ts own) (hK : ke E s) (hD : dp E d z H) (hin : ∀ w ∈ wsX30, w ∈ Ts) (k : Nat) (hk : k < 3) (hlink : Cond.fieldLink own index RX3 (TX3 k).2.1 (TX3 k).2.2.1 ∈ Ts) (href : (TX3 k).1 = RX3) (hfin : (TX3 k).2.2.2 = false) (hn : narrow (tyX3 k) (.int x) = .int x) (hfit : fits (tyX3 k) (.int x) = true) {j : Nat} (hF : (pr_F i0 z).set k (.int x) = pr_F i0 (upd z (3*i0 + j) x)) (hj : 12 ≤ j ∧ j < 15) (hS : va_S A H0 H locs) (hA : ∀ q, bl d 59 q → A q) (hdg : decode cc pc = .ok (.putfield index, 3))
    (kk : ∀ (H1 : Heap) (locs1 : List Loc), dp E d (upd z (3*i0 + j) x) H1 → H1.size = H.size → (∀ q : Nat, ¬ bl d 59 q → H1[q]? = H[q]?) → va_S A H0 H1 locs1 → W p l e R s m args below meth c H1 locs1 cells slots Q (F0 m (pc + 3) ls rest)) : W p l e R s m args below meth c H locs cells slots Q (F0 m pc ls (.int x :: .ref (d + i0 + 5) :: rest)) := by
  refine k_put S hK (hD.2.2.2.2.2.1 i0 hi0) rfl hin tyX3_ok nmX3 k hk hlink href hfin hn hfit (by simpa [pr_F] using hk) hS (hA _ ⟨by omega, by omega⟩) hdg fun H1 locs1 e0 e1 e2 e3 => ?_
  rw [hF] at e0
  refine kk H1 locs1 (dp_up (a := d + i0 + 5) (pos := 3*i0 + j) hD e2 (fun q hq => upd_n hq) ⟨by omega, by omega, by omega⟩ ?_ ?_ (fun i hi => ?_) (fun i hi => ?_) (fun i hi => ?_) (fun i hi => ?_) (fun i hi => ?_)) e1 (fun q hq => e2 q (fun h => hq (by subst h; exact ⟨by omega, by omega⟩))) e3
  · exact Or.inl ⟨by omega, by omega⟩
  · exact Or.inl ⟨by omega, by omega⟩
  · by_cases hq : i = i0
    · subst hq
      exact Or.inr e0
    · exact Or.inl ⟨by omega, by omega⟩
  · exact Or.inl ⟨by omega, by omega⟩
  · exact Or.inl ⟨by omega, by omega⟩
  · exact Or.inl ⟨by omega, by omega⟩
  · exact Or.inl ⟨by omega, by omega⟩
theorem dp_putV {index : Nat} {v0 : Nat} (hv0 : v0 < 4) (S : CallFix p m c cc nL s args Ts own) (hK : ke E s) (hD : dp E d z H) (hin : ∀ w ∈ wsX50, w ∈ Ts) (k : Nat) (hk : k < 5) (hlink : Cond.fieldLink own index RX5 (TX5 k).2.1 (TX5 k).2.2.1 ∈ Ts) (href : (TX5 k).1 = RX5) (hfin : (TX5 k).2.2.2 = false) (hn : narrow (tyX5 k) (.int x) = .int x) (hfit : fits (tyX5 k) (.int x) = true) {j : Nat} (hF : (ve_F d v0 z).set k (.int x) = ve_F d v0 (upd z (8*v0 + j) x)) (hj : 30 ≤ j ∧ j < 34) (hS : va_S A H0 H locs) (hA : ∀ q, bl d 59 q → A q) (hdg : decode cc pc = .ok (.putfield index, 3))
    (kk : ∀ (H1 : Heap) (locs1 : List Loc), dp E d (upd z (8*v0 + j) x) H1 → H1.size = H.size → (∀ q : Nat, ¬ bl d 59 q → H1[q]? = H[q]?) → va_S A H0 H1 locs1 → W p l e R s m args below meth c H1 locs1 cells slots Q (F0 m (pc + 3) ls rest)) : W p l e R s m args below meth c H locs cells slots Q (F0 m pc ls (.int x :: .ref (d + 2*v0 + 11) :: rest)) := by
  refine k_put S hK (hD.2.2.2.2.2.2.1 v0 hv0) rfl hin tyX5_ok nmX5 k hk hlink href hfin hn hfit (by simpa [ve_F] using hk) hS (hA _ ⟨by omega, by omega⟩) hdg fun H1 locs1 e0 e1 e2 e3 => ?_
  rw [hF] at e0
  refine kk H1 locs1 (dp_up (a := d + 2*v0 + 11) (pos := 8*v0 + j) hD e2 (fun q hq => upd_n hq) ⟨by omega, by omega, by omega⟩ ?_ ?_ (fun i hi => ?_) (fun i hi => ?_) (fun i hi => ?_) (fun i hi => ?_) (fun i hi => ?_)) e1 (fun q hq => e2 q (fun h => hq (by subst h; exact ⟨by omega, by omega⟩))) e3
  · exact Or.inl ⟨by omega, by omega⟩
  · exact Or.inl ⟨by omega, by omega⟩
  · exact Or.inl ⟨by omega, by omega⟩
  · by_cases hq : i = v0
    · subst hq
      exact Or.inr e0
    · exact Or.inl ⟨by omega, by omega⟩
  · exact Or.inl ⟨by omega, by omega⟩
  · exact Or.inl ⟨by omega, by omega⟩
  · exact Or.inl ⟨by omega, by omega⟩
theorem dp_putU {index : Nat} {u0 : Nat} (hu0 : u0 < 20) (S : CallFix p m c cc nL s args Ts own) (hK : ke E s) (hD : dp E d z H) (hin : ∀ w ∈ wsX40, w ∈ Ts) (k : Nat) (hk : k < 10) (hlink : Cond.fieldLink own index RX4 (TX4 k).2.1 (TX4 k).2.2.1 ∈ Ts) (href : (TX4 k).1 = RX4) (hfin : (TX4 k).2.2.2 = false) (hn : narrow (tyX4 k) (.int x) = .int x) (hfit : fits (tyX4 k) (.int x) = true) {j : Nat} (hF : (un_F d u0 z).set k (.int x) = un_F d u0 (upd z (13*u0 + j) x)) (hj : 62 ≤ j ∧ j < 64 ∨ 68 ≤ j ∧ j < 75) (hS : va_S A H0 H locs) (hA : ∀ q, bl d 59 q → A q) (hdg : decode cc pc = .ok (.putfield index, 3))
    (kk : ∀ (H1 : Heap) (locs1 : List Loc), dp E d (upd z (13*u0 + j) x) H1 → H1.size = H.size → (∀ q : Nat, ¬ bl d 59 q → H1[q]? = H[q]?) → va_S A H0 H1 locs1 → W p l e R s m args below meth c H1 locs1 cells slots Q (F0 m (pc + 3) ls rest)) : W p l e R s m args below meth c H locs cells slots Q (F0 m pc ls (.int x :: .ref (d + 2*u0 + 19) :: rest)) := by
  refine k_put S hK (hD.2.2.2.2.2.2.2.2.1 u0 hu0) rfl hin tyX4_ok nmX4 k hk hlink href hfin hn hfit (by simpa [un_F] using hk) hS (hA _ ⟨by omega, by omega⟩) hdg fun H1 locs1 e0 e1 e2 e3 => ?_
  rw [hF] at e0
  refine kk H1 locs1 (dp_up (a := d + 2*u0 + 19) (pos := 13*u0 + j) hD e2 (fun q hq => upd_n hq) ⟨by omega, by omega, by omega⟩ ?_ ?_ (fun i hi => ?_) (fun i hi => ?_) (fun i hi => ?_) (fun i hi => ?_) (fun i hi => ?_)) e1 (fun q hq => e2 q (fun h => hq (by subst h; exact ⟨by omega, by omega⟩))) e3
  · exact Or.inl ⟨by omega, by omega⟩
  · exact Or.inl ⟨by omega, by omega⟩
  · exact Or.inl ⟨by omega, by omega⟩
  · exact Or.inl ⟨by omega, by omega⟩
  · exact Or.inl ⟨by omega, by omega⟩
  · by_cases hq : i = u0
    · subst hq
      exact Or.inr e0
    · exact Or.inl ⟨by omega, by omega⟩
  · exact Or.inl ⟨by omega, by omega⟩
theorem dp_astS  {i0 : Nat} (hx : p.tables.exec = Jvm.exec) (hb : c.code = cc) (hK : ke E s) (hD : dp E d z H) (hi0 : i0 < 5) (hS : va_S A H0 H locs) (hA : ∀ q, bl d 59 q → A q) (hdg : decode cc pc = .ok (.iastore, 1))
    (kk : ∀ (H1 : Heap) (locs1 : List Loc), dp E d (upd z (i0 + 7) x) H1 → H1.size = H.size → (∀ q : Nat, ¬ bl d 59 q → H1[q]? = H[q]?) → va_S A H0 H1 locs1 → W p l e R s m args below meth c H1 locs1 cells slots Q (F0 m (pc + 1) ls rest)) : W p l e R s m args below meth c H locs cells slots Q (F0 m pc ls (.int x :: .int (nI i0) :: .ref (d + 4) :: rest)) := by
  refine k_iast hx hb hK (hD.2.2.2.2.1) hi0 (by decide) hS (hA _ ⟨by omega, by omega⟩) hdg fun H1 locs1 e0 e1 e2 e3 => ?_
  have hf : upd (fun k => z (k + 7)) i0 x = fun k => (upd z (i0 + 7) x) (k + 7) := by
    funext q
    by_cases hq : q = i0
    · subst hq
      simp [upd]
    · simp [upd, hq]
  rw [hf] at e0
  refine kk H1 locs1 (dp_up (a := d + 4) (pos := i0 + 7) hD e2 (fun q hq => upd_n hq) ⟨by omega, by omega, by omega⟩ ?_ ?_ (fun i hi => ?_) (fun i hi => ?_) (fun i hi => ?_) (fun i hi => ?_) (fun i hi => ?_)) e1 (fun q hq => e2 q (fun h => hq (by subst h; exact ⟨by omega, by omega⟩))) e3
  · exact Or.inl ⟨by omega, by omega⟩
  · exact Or.inr e0
  · exact Or.inl ⟨by omega, by omega⟩
  · exact Or.inl ⟨by omega, by omega⟩
  · exact Or.inl ⟨by omega, by omega⟩
  · exact Or.inl ⟨by omega, by omega⟩
  · exact Or.inl ⟨by omega, by omega⟩
theorem dp_astA {v0 : Nat} (hv0 : v0 < 4) {i0 : Nat} (hx : p.tables.exec = Jvm.exec) (hb : c.code = cc) (hK : ke E s) (hD : dp E d z H) (hi0 : i0 < 4) (hS : va_S A H0 H locs) (hA : ∀ q, bl d 59 q → A q) (hdg : decode cc pc = .ok (.iastore, 1))
    (kk : ∀ (H1 : Heap) (locs1 : List Loc), dp E d (upd z (8*v0 + i0 + 34) x) H1 → H1.size = H.size → (∀ q : Nat, ¬ bl d 59 q → H1[q]? = H[q]?) → va_S A H0 H1 locs1 → W p l e R s m args below meth c H1 locs1 cells slots Q (F0 m (pc + 1) ls rest)) : W p l e R s m args below meth c H locs cells slots Q (F0 m pc ls (.int x :: .int (nI i0) :: .ref (d + 2*v0 + 12) :: rest)) := by
  refine k_iast hx hb hK (hD.2.2.2.2.2.2.2.1 v0 hv0) hi0 (by decide) hS (hA _ ⟨by omega, by omega⟩) hdg fun H1 locs1 e0 e1 e2 e3 => ?_
  have hf : upd (fun r => z (8*v0 + r + 34)) i0 x = fun r => (upd z (8*v0 + i0 + 34) x) (8*v0 + r + 34) := by
    funext q
    by_cases hq : q = i0
    · subst hq
      simp [upd]
    · simp [upd, hq]
  rw [hf] at e0
  refine kk H1 locs1 (dp_up (a := d + 2*v0 + 12) (pos := 8*v0 + i0 + 34) hD e2 (fun q hq => upd_n hq) ⟨by omega, by omega, by omega⟩ ?_ ?_ (fun i hi => ?_) (fun i hi => ?_) (fun i hi => ?_) (fun i hi => ?_) (fun i hi => ?_)) e1 (fun q hq => e2 q (fun h => hq (by subst h; exact ⟨by omega, by omega⟩))) e3
  · exact Or.inl ⟨by omega, by omega⟩
  · exact Or.inl ⟨by omega, by omega⟩
  · exact Or.inl ⟨by omega, by omega⟩
  · exact Or.inl ⟨by omega, by omega⟩
  · by_cases hq : i = v0
    · subst hq
      exact Or.inr e0
    · exact Or.inl ⟨by omega, by omega⟩
  · exact Or.inl ⟨by omega, by omega⟩
  · exact Or.inl ⟨by omega, by omega⟩
theorem dp_astU {u0 : Nat} (hu0 : u0 < 20) {i0 : Nat} (hx : p.tables.exec = Jvm.exec) (hb : c.code = cc) (hK : ke E s) (hD : dp E d z H) (hi0 : i0 < 4) (hS : va_S A H0 H locs) (hA : ∀ q, bl d 59 q → A q) (hdg : decode cc pc = .ok (.iastore, 1))
    (kk : ∀ (H1 : Heap) (locs1 : List Loc), dp E d (upd z (13*u0 + i0 + 64) x) H1 → H1.size = H.size → (∀ q : Nat, ¬ bl d 59 q → H1[q]? = H[q]?) → va_S A H0 H1 locs1 → W p l e R s m args below meth c H1 locs1 cells slots Q (F0 m (pc + 1) ls rest)) : W p l e R s m args below meth c H locs cells slots Q (F0 m pc ls (.int x :: .int (nI i0) :: .ref (d + 2*u0 + 20) :: rest)) := by
  refine k_iast hx hb hK (hD.2.2.2.2.2.2.2.2.2 u0 hu0) hi0 (by decide) hS (hA _ ⟨by omega, by omega⟩) hdg fun H1 locs1 e0 e1 e2 e3 => ?_
  have hf : upd (fun t => z (13*u0 + t + 64)) i0 x = fun t => (upd z (13*u0 + i0 + 64) x) (13*u0 + t + 64) := by
    funext q
    by_cases hq : q = i0
    · subst hq
      simp [upd]
    · simp [upd, hq]
  rw [hf] at e0
  refine kk H1 locs1 (dp_up (a := d + 2*u0 + 20) (pos := 13*u0 + i0 + 64) hD e2 (fun q hq => upd_n hq) ⟨by omega, by omega, by omega⟩ ?_ ?_ (fun i hi => ?_) (fun i hi => ?_) (fun i hi => ?_) (fun i hi => ?_) (fun i hi => ?_)) e1 (fun q hq => e2 q (fun h => hq (by subst h; exact ⟨by omega, by omega⟩))) e3
  · exact Or.inl ⟨by omega, by omega⟩
  · exact Or.inl ⟨by omega, by omega⟩
  · exact Or.inl ⟨by omega, by omega⟩
  · exact Or.inl ⟨by omega, by omega⟩
  · exact Or.inl ⟨by omega, by omega⟩
  · exact Or.inl ⟨by omega, by omega⟩
  · by_cases hq : i = u0
    · subst hq
      exact Or.inr e0
    · exact Or.inl ⟨by omega, by omega⟩
end DP
