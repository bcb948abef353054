/-! ===== the desk's changes ===== -/
theorem met_ex {X : Type} {l : Launch} {y : MethodName} {ws : List Cond} {rm : Room} {E : ke_E} {av : List Value} {C : X → Prop} {P Q0 : X → Heap → Prop} {P' Q' : Heap → Prop} {v : Option Value} {A : Nat → Prop} {mc ms : Nat} {free : Addr → Prop} (h : ∀ x : X, C x → Met l y ws rm (kp E av (P x)) (qm v A (Q0 x)) mc ms free) (hp : ∀ H, P' H → ∃ x, C x ∧ P x H ∧ ∀ H1, Q0 x H1 → Q' H1) : Met l y ws rm (kp E av P') (qm v A Q') mc ms free := by
  intro p e ha hc hk s m args below hf happ hP hK
  obtain ⟨hv, hke, hP⟩ := hP
  obtain ⟨x, hC, h1, h2⟩ := hp _ hP
  obtain ⟨n, o, a1, a2, a3, a4, a5⟩ := h x hC p e ha hc hk s m args below hf happ ⟨hv, hke, h1⟩ hK
  exact ⟨n, o, a1, a2, a3, ⟨a4.1, h2 _ a4.2.1, a4.2.2⟩, a5⟩
theorem ag_2 {n : Nat} {z : Nat → Int32} {x : Int32} : ag n z (upd z 2 x) := fun p _ h2 _ _ _ => (upd_n h2).symm
theorem ag_3 {n : Nat} {z : Nat → Int32} {x : Int32} : ag n z (upd z 3 x) := fun p _ _ h3 _ _ => (upd_n h3).symm
theorem ag_4 {n : Nat} {z : Nat → Int32} {x : Int32} : ag n z (upd z 4 x) := fun p _ _ _ h4 _ => (upd_n h4).symm
theorem ag_6 {n : Nat} {z : Nat → Int32} {x : Int32} : ag n z (upd z 6 x) := fun p _ _ _ _ h6 => (upd_n h6).symm
/-! pays -/
noncomputable def pvZ (z : Nat → Int32) (u : Nat) : Nat → Int32 := iF (payP z u) (upd (upd z (8*ub z u + 31) (z (8*ub z u + 31) + z (13*u + 70))) (8*ub z u + 32) (z (8*ub z u + 32) + z (13*u + 70))) z
theorem pvZ_70 {z : Nat → Int32} {j u : Nat} (hb : ub z j < 4) : pvZ z j (13*u + 70) = z (13*u + 70) := by
  unfold pvZ
  by_cases c : payP z j
  · rw [iF_t c, upd_n (by omega), upd_n (by omega)]
  · rw [iF_f c]
theorem cn_pvZ {z : Nat → Int32} {j : Nat} : cn (pvZ z j) = cn z := by
  unfold pvZ
  by_cases c : payP z j
  · rw [iF_t c, cn_u (by omega), cn_u (by omega)]
  · rw [iF_f c]
theorem payP_c {z : Nat → Int32} {u : Nat} : (¬ z (8*ub z u + 30) < z (8*ub z u + 31) + z (13*u + 70)) ↔ payP z u := by
  unfold payP
  rw [Int32.add_comm]
theorem payP_6 {z : Nat → Int32} {u : Nat} {x : Int32} : payP (upd z 6 x) u ↔ payP z u := by
  unfold payP ub
  rw [upd_n (k := 6) (j := 13*u + 71) (by omega), upd_n (k := 6) (j := 13*u + 70) (by omega), upd_n (k := 6) (by omega), upd_n (k := 6) (by omega)]
theorem pay_ag {z : Nat → Int32} {u n : Nat} (h72 : z (13*u + 72) = 0) : ag n (upd (pvZ z u) (13*u + 72) (bI (payP z u))) (payZ z u) := by
  intro p hp h2 h3 h4 h6
  unfold pvZ payZ
  by_cases c : payP z u
  · rw [iF_t c, iF_t c, bI_t c]
    by_cases e : p = 13*u + 72
    · rw [e, upd_s, upd_s]
    · rw [upd_n e, upd_n e, upd_n h3]
  · rw [iF_f c, iF_f c, bI_f c]
    by_cases e : p = 13*u + 72
    · rw [e, upd_s, h72, nI_0]
    · rw [upd_n e]
theorem pay_6 {z : Nat → Int32} {u n : Nat} {x : Int32} : ag n (payZ z u) (payZ (upd z 6 x) u) := by
  intro p hp h2 h3 h4 h6
  have eb : ub (upd z 6 x) u = ub z u := by unfold ub; rw [upd_n (by omega)]
  unfold payZ
  by_cases c : payP z u
  · rw [iF_t c, iF_t (payP_6.mpr c), eb, upd_n (k := 6) (j := 8*ub z u + 31) (by omega), upd_n (k := 6) (j := 13*u + 70) (by omega), upd_n (k := 6) (j := 8*ub z u + 32) (by omega), upd_n (k := 6) (j := 3) (by omega)]
    by_cases e1 : p = 13*u + 72
    · rw [e1, upd_s, upd_s]
    · rw [upd_n e1, upd_n e1, upd_n h3, upd_n h3]
      by_cases e2 : p = 8*ub z u + 32
      · rw [e2, upd_s, upd_s]
      · rw [upd_n e2, upd_n e2]
        by_cases e3 : p = 8*ub z u + 31
        · rw [e3, upd_s, upd_s]
        · rw [upd_n e3, upd_n e3, upd_n h6]
  · rw [iF_f c, iF_f (fun q => c (payP_6.mp q)), upd_n h6]
theorem ag_cnx {n : Nat} {a b : Nat → Int32} (h : ∀ n, ag n a b) : ag n a b := h n
/-! sends -/
theorem mv_ag {z w : Nat → Int32} {u r : Nat} (hw : ∀ p, p ≠ 2 → p ≠ 3 → p ≠ 4 → p ≠ 6 → w p = sdZ z u r p) {n : Nat} : ag n w (sdZ z u r) := fun p _ h2 h3 h4 h6 => hw p h2 h3 h4 h6
theorem sd_p {z : Nat → Int32} {u r p : Nat} (h2 : p ≠ 2) (h3 : p ≠ 3) (hv : pv z (up z u) < 4) : sdZ z u r p = if p = 13*u + 68 then nI r else if p = 13*u + 69 then z (13*u + 69) + x_1 r else if p = 13*u + 73 then brg z u r else if p = 8*pv z (up z u) + 33 then z (8*pv z (up z u) + 33) + x_4 r (brg z u r) else z p := by
  unfold sdZ sn5
  by_cases e1 : p = 13*u + 68
  · rw [if_pos e1, e1, upd_n (by omega), upd_n (by omega), upd_n (by omega), upd_n (by omega), upd_n (by omega), upd_s]
  rw [if_neg e1]
  by_cases e2 : p = 13*u + 69
  · rw [if_pos e2, e2, upd_n (by omega), upd_n (by omega), upd_n (by omega), upd_n (by omega), upd_s]
  rw [if_neg e2]
  by_cases e3 : p = 13*u + 73
  · rw [if_pos e3, e3, upd_n (by omega), upd_n (by omega), upd_n (by omega), upd_s]
  rw [if_neg e3]
  by_cases e4 : p = 8*pv z (up z u) + 33
  · rw [if_pos e4, e4, upd_s]
  rw [if_neg e4, upd_n e4, upd_n h3, upd_n h2, upd_n e3, upd_n e2, upd_n e1]
theorem mv_1 {z : Nat → Int32} {u n : Nat} (hv : pv z (up z u) < 4) : ag n (upd (upd (upd z (13*u + 69) (z (13*u + 69) + nI 1)) (13*u + 73) (brg z u 1)) (13*u + 68) (nI 1)) (sdZ z u 1) := by
  intro p _ h2 h3 h4 h6
  rw [sd_p h2 h3 hv]
  by_cases e1 : p = 13*u + 68
  · rw [if_pos e1, e1, upd_s]
  rw [if_neg e1, upd_n e1]
  by_cases e2 : p = 13*u + 69
  · rw [if_pos e2, e2, upd_n (by omega), upd_s]; rfl
  rw [if_neg e2]
  by_cases e3 : p = 13*u + 73
  · rw [if_pos e3, e3, upd_s]
  rw [if_neg e3, upd_n e3, upd_n e2]
  by_cases e4 : p = 8*pv z (up z u) + 33
  · rw [if_pos e4, e4, show x_4 1 (brg z u 1) = nI 0 from rfl, nI_0, Int32.add_zero]
  rw [if_neg e4]
theorem mv_o {z : Nat → Int32} {u n r : Nat} (hv : pv z (up z u) < 4) (h1 : x_1 r = nI 0) (h4 : x_4 r (brg z u r) = nI 0) : ag n (upd (upd z (13*u + 73) (brg z u r)) (13*u + 68) (nI r)) (sdZ z u r) := by
  intro p _ h2 h3 h4' h6
  rw [sd_p h2 h3 hv, h1, h4, nI_0, Int32.add_zero, Int32.add_zero]
  by_cases e1 : p = 13*u + 68
  · rw [if_pos e1, e1, upd_s]
  rw [if_neg e1, upd_n e1]
  by_cases e2 : p = 13*u + 69
  · rw [if_pos e2, e2, upd_n (by omega)]
  rw [if_neg e2]
  by_cases e3 : p = 13*u + 73
  · rw [if_pos e3, e3, upd_s]
  rw [if_neg e3, upd_n e3]
  by_cases e4 : p = 8*pv z (up z u) + 33
  · rw [if_pos e4, e4]
  rw [if_neg e4]
theorem mv_4 {z : Nat → Int32} {u n : Nat} (hv : pv z (up z u) < 4) : ag n (upd (upd (upd z (8*pv z (up z u) + 33) (z (8*pv z (up z u) + 33) + brg z u 4)) (13*u + 73) (brg z u 4)) (13*u + 68) (nI 4)) (sdZ z u 4) := by
  intro p _ h2 h3 h4 h6
  rw [sd_p h2 h3 hv, show x_1 4 = nI 0 from rfl, nI_0, Int32.add_zero, show x_4 4 (brg z u 4) = brg z u 4 from rfl]
  by_cases e1 : p = 13*u + 68
  · rw [if_pos e1, e1, upd_s]
  rw [if_neg e1, upd_n e1]
  by_cases e2 : p = 13*u + 69
  · rw [if_pos e2, e2, upd_n (by omega), upd_n (by omega)]
  rw [if_neg e2]
  by_cases e3 : p = 13*u + 73
  · rw [if_pos e3, e3, upd_s]
  rw [if_neg e3, upd_n e3]
  by_cases e4 : p = 8*pv z (up z u) + 33
  · rw [if_pos e4, e4, upd_s]
  rw [if_neg e4, upd_n e4]
/-! repair, a day -/
theorem sco_74 {z : Nat → Int32} {u : Nat} : sco z u (13*u + 74) = z (13*u + 74) := by
  unfold sco
  rw [upd_n (by omega), upd_n (by omega), upd_n (by omega), upd_n (by omega)]
theorem rkW_wk {z : Nat → Int32} {k : Int32} {i r : Nat} (h : rkW z k i = some r) : z (13*i + 68) = nI 1 := by
  apply Classical.byContradiction
  intro q
  rw [rkW_n (fun e => q e.1)] at h
  cases h
theorem rkC_wt {z : Nat → Int32} {i r : Nat} (h : rkC z i = some r) : wts z i := by
  apply Classical.byContradiction
  intro q
  rw [rkC_n q] at h
  cases h
/-! closing, by ranks -/
noncomputable def cc : Nat → (Nat → Int32) → Nat → Int32 → (Nat → Int32) × Int32
  | 0, z, _, a => (z, a)
  | f + 1, z, b, a => match nrk (rkC z) b (cn z) with
    | none => (z, a)
    | some r => cc f (payZ z (nbr r)) r (a + iF (payP z (nbr r)) (z (13*nbr r + 70)) (nI 0))
theorem cc_n {f b : Nat} {z : Nat → Int32} {a : Int32} (h : nrk (rkC z) b (cn z) = none) : cc f z b a = (z, a) := by
  cases f with
  | zero => rfl
  | succ f =>
    show (match nrk (rkC z) b (cn z) with | none => (z, a) | some r => _) = _
    rw [h]
theorem cc_s {f b r : Nat} {z : Nat → Int32} {a : Int32} (h : nrk (rkC z) b (cn z) = some r) : cc (f + 1) z b a = cc f (payZ z (nbr r)) r (a + iF (payP z (nbr r)) (z (13*nbr r + 70)) (nI 0)) := by
  show (match nrk (rkC z) b (cn z) with | none => (z, a) | some r => _) = _
  rw [h]
theorem pay_o {z : Nat → Int32} {j u : Nat} (h : iv z) (hj : j < cn z) (hu : u ≠ j) : payZ z j (13*u + 70) = z (13*u + 70) ∧ payZ z j (13*u + 72) = z (13*u + 72) := by
  refine ⟨(payZ_iv h hj).2.2 u, ?_⟩
  have hb := iv_ubl h hj
  unfold payZ
  by_cases c : payP z j
  · rw [iF_t c, upd_n (by omega), upd_n (by omega), upd_n (by omega), upd_n (by omega)]
  · rw [iF_f c]
theorem pay_j {z : Nat → Int32} {j : Nat} (h : iv z) (hj : j < cn z) (hw : wts (payZ z j) j) : wts z j := by
  refine ⟨by rw [← (payZ_iv h hj).2.2 j]; exact hw.1, ?_⟩
  have k := hw.2
  unfold payZ at k
  by_cases c : payP z j
  · rw [iF_t c, upd_s] at k
    exact absurd k (by decide)
  · rw [iF_f c] at k; exact k
theorem rkC_pay {z : Nat → Int32} {j u q : Nat} (h : iv z) (hj : j < cn z) (hq : rkC (payZ z j) u = some q) : rkC z u = some q := by
  have hw := rkC_wt hq
  have e70 : payZ z j (13*u + 70) = z (13*u + 70) := (payZ_iv h hj).2.2 u
  have hz : wts z u := by
    by_cases e : u = j
    · rw [e] at hw ⊢; exact pay_j h hj hw
    · obtain ⟨a, b⟩ := pay_o h hj e
      unfold wts at hw ⊢
      rw [a, b] at hw
      exact hw
  rw [rkC_s hw] at hq
  rw [rkC_s hz, ← hq]
  unfold aN
  rw [e70]
theorem cc_clo : ∀ (f : Nat) {z : Nat → Int32} {b : Nat} {d a : Int32}, iv z → (∀ u q, u < cn z → rkC z u = some q → (bit d u = 0 ↔ q < b)) → cc f z b a = clo f z d a
  | 0, z, b, d, a, _, _ => rfl
  | f + 1, z, b, d, a, h, hb => by
    have c20 := iv_c h
    have e := nc_rk h _ (Nat.le_refl _) hb
    cases hr : nrk (rkC z) b (cn z) with
    | none =>
      rw [hr] at e
      rw [cc_n hr, clo_n e]
    | some r =>
      rw [hr] at e
      have e : nc z d (cn z) = some (nbr r) := e
      have hl := nrk_lt (rkC_ok h) hr
      have hp := payZ_iv h hl.1
      rw [cc_s hr, clo_s e]
      refine cc_clo f hp.1 fun u q hu hq => ?_
      rw [hp.2.1] at hu
      have hq' := rkC_pay h hl.1 hq
      exact bit_step c20 (rkC_ok h) hr hu hq' (hb u q hu hq')
theorem cntb_z {d : Int32} {j : Nat} (hj : bit d j = 0) : ∀ n, n ≤ 20 → j < n → 0 < cntb d n := by
  intro n hn hjn
  have := (cntb_or (d := d) (j := j) (by omega) n (by omega)).2 hj hjn
  omega
theorem clo_fuel : ∀ (f e : Nat) {z : Nat → Int32} {d a : Int32}, iv z → cntb d (cn z) ≤ f → clo f z d a = clo (f + e) z d a
  | 0, e, z, d, a, h, hf => by
    have c20 := iv_c h
    have hn : nc z d (cn z) = none := by
      cases hr : nc z d (cn z) with
      | none => rfl
      | some j =>
        have k := nc_lt hr
        have := cntb_z k.2.2 (cn z) c20 k.1
        omega
    rw [clo_n hn, clo_n hn]
  | f + 1, e, z, d, a, h, hf => by
    have c20 := iv_c h
    cases hr : nc z d (cn z) with
    | none => rw [clo_n hr, clo_n hr]
    | some j =>
      have k := nc_lt hr
      have hp := payZ_iv h k.1
      have hc := (cntb_or (d := d) (j := j) (by omega) (cn z) (by omega)).2 k.2.2 k.1
      rw [show f + 1 + e = (f + e) + 1 by omega, clo_s hr, clo_s hr]
      exact clo_fuel f e hp.1 (by rw [hp.2.1]; omega)
theorem cc_cloZ {z : Nat → Int32} (h : iv z) : cc (cn z) (clz z) 1000000000 (nI 0) = cloZ z := by
  have hi := iv_clz h
  have c20 := iv_c h
  have hcn : cn (clz z) = cn z := cn_clz
  rw [cc_clo (d := nI 0) (cn z) hi fun u q hu hq => ?_]
  · unfold cloZ
    rw [show (20 : Nat) = cn z + (20 - cn z) by omega]
    exact clo_fuel _ _ hi (by rw [hcn]; exact cntb_le _)
  · have := (rkC_ok hi u q hu hq).2
    rw [hcn] at hu
    exact ⟨fun _ => by omega, fun _ => bit_0 (by omega)⟩
theorem clz_ag {z : Nat → Int32} {n : Nat} : ag n (upd (upd (upd (upd (upd z 5 (z 5 + nI 1)) 31 (nI 0)) 39 (nI 0)) 47 (nI 0)) 55 (nI 0)) (clz z) := by
  intro p _ _ _ _ _
  unfold clz
  by_cases e5 : p = 5
  · rw [e5, upd_s, upd_n (by omega), upd_n (by omega), upd_n (by omega), upd_n (by omega), upd_s]
  rw [upd_n (k := 5) e5]
  by_cases e1 : p = 55
  · rw [e1, upd_s, upd_s]
  rw [upd_n e1, upd_n e1]
  by_cases e2 : p = 47
  · rw [e2, upd_s, upd_s]
  rw [upd_n e2, upd_n e2]
  by_cases e3 : p = 39
  · rw [e3, upd_s, upd_s]
  rw [upd_n e3, upd_n e3]
  by_cases e4 : p = 31
  · rw [e4, upd_s, upd_s]
  rw [upd_n e4, upd_n e4, upd_n e5]
/-! copies -/
theorem iv_ag {z y : Nat → Int32} (h : iv z) (k : ag (cn z) y z) : iv y := by
  have c := ag_cn k
  have e : ∀ p, p < 13*cn z + 62 → p ≠ 2 → p ≠ 3 → p ≠ 4 → p ≠ 6 → y p = z p := k
  refine ⟨?_, ?_, ?_, fun i hi => ?_, fun v r hv hr => ?_, fun u hu => ?_⟩
  · rw [e 0 (by omega) (by omega) (by omega) (by omega) (by omega)]; exact h.1
  · rw [e 10 (by omega) (by omega) (by omega) (by omega) (by omega)]; exact h.2.1
  · rw [e 11 (by omega) (by omega) (by omega) (by omega) (by omega)]; exact h.2.2.1
  · rw [e (3*i + 12) (by omega) (by omega) (by omega) (by omega) (by omega), e (3*i + 13) (by omega) (by omega) (by omega) (by omega) (by omega), e (3*i + 14) (by omega) (by omega) (by omega) (by omega) (by omega)]
    exact h.2.2.2.1 i hi
  · rw [e (8*v + r + 34) (by omega) (by omega) (by omega) (by omega) (by omega)]
    exact h.2.2.2.2.1 v r hv hr
  · rw [← c] at hu
    have a := h.2.2.2.2.2 u hu
    unfold iu at a ⊢
    rw [e (13*u + 62) (by omega) (by omega) (by omega) (by omega) (by omega), e (13*u + 63) (by omega) (by omega) (by omega) (by omega) (by omega), e (13*u + 64) (by omega) (by omega) (by omega) (by omega) (by omega), e (13*u + 65) (by omega) (by omega) (by omega) (by omega) (by omega), e (13*u + 66) (by omega) (by omega) (by omega) (by omega) (by omega), e (13*u + 67) (by omega) (by omega) (by omega) (by omega) (by omega), e (13*u + 68) (by omega) (by omega) (by omega) (by omega) (by omega), e (13*u + 70) (by omega) (by omega) (by omega) (by omega) (by omega), e (13*u + 71) (by omega) (by omega) (by omega) (by omega) (by omega), e (13*u + 72) (by omega) (by omega) (by omega) (by omega) (by omega)]
    exact a
def cpR (y2 y : Nat → Int32) (a : Nat) : Nat → Int32 := fun j => if 12 ≤ j ∧ j < a then y j else y2 j
theorem cpR_0 {y2 y : Nat → Int32} : cpR y2 y 12 = y2 := by
  funext j
  unfold cpR
  rw [if_neg (by omega)]
theorem cpR_s {y2 y : Nat → Int32} {a : Nat} (h : 12 ≤ a) : upd (cpR y2 y a) a (y a) = cpR y2 y (a + 1) := by
  funext j
  unfold cpR
  by_cases e : j = a
  · rw [e, upd_s, if_pos (by omega)]
  · rw [upd_n e]
    by_cases c : 12 ≤ j ∧ j < a
    · rw [if_pos c, if_pos (by omega)]
    · rw [if_neg c, if_neg (by omega)]
def cpU (y2 y : Nat → Int32) (k : Nat) : Nat → Int32 := fun j => if 62 ≤ j ∧ j < 13*k + 62 then y j else y2 j
theorem cpU_0 {y2 y : Nat → Int32} : cpU y2 y 0 = y2 := by
  funext j
  unfold cpU
  rw [if_neg (by omega)]
def cp13 (y : Nat → Int32) (u : Nat) (w : Nat → Int32) : Nat → Int32 := upd (upd (upd (upd (upd (upd (upd (upd (upd (upd (upd (upd (upd w (13*u + 64) (y (13*u + 64))) (13*u + 65) (y (13*u + 65))) (13*u + 66) (y (13*u + 66))) (13*u + 67) (y (13*u + 67))) (13*u + 62) (y (13*u + 62))) (13*u + 63) (y (13*u + 63))) (13*u + 68) (y (13*u + 68))) (13*u + 69) (y (13*u + 69))) (13*u + 70) (y (13*u + 70))) (13*u + 71) (y (13*u + 71))) (13*u + 72) (y (13*u + 72))) (13*u + 73) (y (13*u + 73))) (13*u + 74) (y (13*u + 74))
theorem cp_1 {y w : Nat → Int32} {p j : Nat} : upd w p (y p) j = if j = p then y j else w j := by
  by_cases e : j = p
  · rw [e, upd_s, if_pos rfl]
  · rw [upd_n e, if_neg e]
theorem cp13_p {y w : Nat → Int32} {u j : Nat} : cp13 y u w j = if 13*u + 62 ≤ j ∧ j < 13*u + 75 then y j else w j := by
  unfold cp13
  rw [cp_1, cp_1, cp_1, cp_1, cp_1, cp_1, cp_1, cp_1, cp_1, cp_1, cp_1, cp_1, cp_1]
  by_cases c : 13*u + 62 ≤ j ∧ j < 13*u + 75
  · rw [if_pos c]
    rcases (by omega : j = 13*u + 62 ∨ j = 13*u + 63 ∨ j = 13*u + 64 ∨ j = 13*u + 65 ∨ j = 13*u + 66 ∨ j = 13*u + 67 ∨ j = 13*u + 68 ∨ j = 13*u + 69 ∨ j = 13*u + 70 ∨ j = 13*u + 71 ∨ j = 13*u + 72 ∨ j = 13*u + 73 ∨ j = 13*u + 74) with e | e | e | e | e | e | e | e | e | e | e | e | e <;> simp [e]
  · rw [if_neg c, if_neg (by omega), if_neg (by omega), if_neg (by omega), if_neg (by omega), if_neg (by omega), if_neg (by omega), if_neg (by omega), if_neg (by omega), if_neg (by omega), if_neg (by omega), if_neg (by omega), if_neg (by omega), if_neg (by omega)]
theorem cpU_s {y2 y : Nat → Int32} {k : Nat} : cp13 y k (cpU y2 y k) = cpU y2 y (k + 1) := by
  funext j
  rw [cp13_p]
  unfold cpU
  by_cases c : 13*k + 62 ≤ j ∧ j < 13*k + 75
  · rw [if_pos c, if_pos (by omega)]
  · rw [if_neg c]
    by_cases e : 62 ≤ j ∧ j < 13*k + 62
    · rw [if_pos e, if_pos (by omega)]
    · rw [if_neg e, if_neg (by omega)]
def cp8 (y : Nat → Int32) (v : Nat) (w : Nat → Int32) : Nat → Int32 := upd (upd (upd (upd (upd (upd (upd (upd w (8*v + 34) (y (8*v + 34))) (8*v + 35) (y (8*v + 35))) (8*v + 36) (y (8*v + 36))) (8*v + 37) (y (8*v + 37))) (8*v + 30) (y (8*v + 30))) (8*v + 31) (y (8*v + 31))) (8*v + 32) (y (8*v + 32))) (8*v + 33) (y (8*v + 33))
theorem cp8_p {y w : Nat → Int32} {v j : Nat} : cp8 y v w j = if 8*v + 30 ≤ j ∧ j < 8*v + 38 then y j else w j := by
  unfold cp8
  rw [cp_1, cp_1, cp_1, cp_1, cp_1, cp_1, cp_1, cp_1]
  by_cases c : 8*v + 30 ≤ j ∧ j < 8*v + 38
  · rw [if_pos c]
    rcases (by omega : j = 8*v + 30 ∨ j = 8*v + 31 ∨ j = 8*v + 32 ∨ j = 8*v + 33 ∨ j = 8*v + 34 ∨ j = 8*v + 35 ∨ j = 8*v + 36 ∨ j = 8*v + 37) with e | e | e | e | e | e | e | e <;> simp [e]
  · rw [if_neg c, if_neg (by omega), if_neg (by omega), if_neg (by omega), if_neg (by omega), if_neg (by omega), if_neg (by omega), if_neg (by omega), if_neg (by omega)]
theorem cpR_8 {y2 y : Nat → Int32} {k : Nat} : cp8 y k (cpR y2 y (8*k + 30)) = cpR y2 y (8*(k + 1) + 30) := by
  funext j
  rw [cp8_p]
  unfold cpR
  by_cases c : 8*k + 30 ≤ j ∧ j < 8*k + 38
  · rw [if_pos c, if_pos (by omega)]
  · rw [if_neg c]
    by_cases e : 12 ≤ j ∧ j < 8*k + 30
    · rw [if_pos e, if_pos (by omega)]
    · rw [if_neg e, if_neg (by omega)]
def cp3 (y : Nat → Int32) (i : Nat) (w : Nat → Int32) : Nat → Int32 := upd (upd (upd w (3*i + 12) (y (3*i + 12))) (3*i + 13) (y (3*i + 13))) (3*i + 14) (y (3*i + 14))
theorem cpR_3 {y2 y : Nat → Int32} {k : Nat} : cp3 y k (cpR y2 y (3*k + 12)) = cpR y2 y (3*(k + 1) + 12) := by
  unfold cp3
  rw [cpR_s (by omega), cpR_s (by omega), cpR_s (by omega), show 3*(k + 1) + 12 = 3*k + 12 + 1 + 1 + 1 by omega]
def cpF (y2 y : Nat → Int32) : Nat → Int32 := upd (upd (upd (upd (upd (upd (upd (cpU (upd (cpR y2 y 62) 0 (y 0)) y (cn y)) 7 (y 7)) 8 (y 8)) 9 (y 9)) 10 (y 10)) 11 (y 11)) 1 (y 1)) 5 (y 5)
theorem cpF_ag {y2 y : Nat → Int32} : ag (cn y) (cpF y2 y) y := by
  intro p hp h2 h3 h4 h6
  unfold cpF
  rw [cp_1, cp_1, cp_1, cp_1, cp_1, cp_1, cp_1]
  by_cases e : p = 5 ∨ p = 1 ∨ p = 11 ∨ p = 10 ∨ p = 9 ∨ p = 8 ∨ p = 7
  · rcases e with e | e | e | e | e | e | e <;> simp [e]
  · rw [if_neg (by omega), if_neg (by omega), if_neg (by omega), if_neg (by omega), if_neg (by omega), if_neg (by omega), if_neg (by omega)]
    unfold cpU
    by_cases c : 62 ≤ p ∧ p < 13*cn y + 62
    · rw [if_pos c]
    · rw [if_neg c, cp_1]
      by_cases e0 : p = 0
      · rw [if_pos e0]
      · rw [if_neg e0]
        unfold cpR
        rw [if_pos (by omega)]
/-! a unit begins -/
def begZ (y : Nat → Int32) (n : Nat) (x r : Int32) : Nat → Int32 := upd (upd (upd (upd (upd (upd (upd (upd (upd (upd (upd (upd (upd y (13*n + 64) (-1)) (13*n + 65) (-1)) (13*n + 66) (-1)) (13*n + 67) (-1)) (13*n + 62) x) (13*n + 63) r) (13*n + 68) (nI 0)) (13*n + 69) (nI 0)) (13*n + 70) (-1)) (13*n + 71) (nI 0)) (13*n + 72) (nI 0)) (13*n + 73) (nI 0)) (13*n + 74) (nI 0)
theorem begZ_lo {y : Nat → Int32} {n j : Nat} {x r : Int32} (h : j < 13*n + 62) : begZ y n x r j = y j := by
  unfold begZ
  rw [upd_n (by omega), upd_n (by omega), upd_n (by omega), upd_n (by omega), upd_n (by omega), upd_n (by omega), upd_n (by omega), upd_n (by omega), upd_n (by omega), upd_n (by omega), upd_n (by omega), upd_n (by omega), upd_n (by omega)]
theorem begZ_ag {y z : Nat → Int32} {q r : Nat} (k : ag (cn z) y z) : ag (cn z + 1) (upd (begZ y (cn z) (nI q) (nI r)) 0 (nI (cn z + 1))) (rcv z q r) := by
  intro p hp h2 h3 h4 h6
  by_cases e0 : p = 0
  · rw [e0, upd_s]; exact (upd_s).symm
  rw [upd_n e0]
  by_cases lo : p < 13*cn z + 62
  · rw [begZ_lo lo, rcv_lo e0 lo]
    exact k p lo h2 h3 h4 h6
  · obtain ⟨c, hc⟩ : ∃ c, p = 13*cn z + c := ⟨p - 13*cn z, by omega⟩
    subst hc
    rw [rcv_hi (by omega)]
    unfold begZ
    rcases (by omega : c = 62 ∨ c = 63 ∨ c = 64 ∨ c = 65 ∨ c = 66 ∨ c = 67 ∨ c = 68 ∨ c = 69 ∨ c = 70 ∨ c = 71 ∨ c = 72 ∨ c = 73 ∨ c = 74) with e | e | e | e | e | e | e | e | e | e | e | e | e <;> subst e <;> simp [upd]
