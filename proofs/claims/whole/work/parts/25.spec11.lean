/-! ===== sums and ranks of the class's desk ===== -/
theorem pl_rg {z : Nat → Int32} {u : Nat} (h : iv z) (hu : u < cn z) : rg (z (13*u + 68)) 0 4 := (iv_u h hu).2.2.2.1
theorem pl_lo {z : Nat → Int32} {u : Nat} (h : iv z) (hu : u < cn z) : ¬ z (13*u + 68) < nI 0 := fun q => by
  have a := (pl_rg h hu).1
  have b := Int32.lt_iff_toInt_lt.mp q
  rw [nI_toInt (by decide)] at b
  omega
theorem pl_hi {z : Nat → Int32} {u : Nat} (h : iv z) (hu : u < cn z) : ¬ nI 4 < z (13*u + 68) := fun q => by
  have a := (pl_rg h hu).2
  have b := Int32.lt_iff_toInt_lt.mp q
  rw [nI_toInt (by decide)] at b
  omega
theorem lt2_n1 {x : Int32} : x < nI 2 ↔ ¬ nI 1 < x := ⟨fun h => Int32.not_lt.mpr (lt2_le1 h), fun h => le1_lt2 (Int32.not_lt.mp h)⟩
theorem eq2_n {x : Int32} : x = nI 2 ↔ ¬ x < nI 2 ∧ ¬ nI 2 < x := by
  rw [i_eq, Int32.lt_iff_toInt_lt, Int32.lt_iff_toInt_lt]
  omega
noncomputable def saN (z : Nat → Int32) : Nat → Int32
  | 0 => nI 0
  | i + 1 => saN z i + iF (z (13*i + 68) = nI 2) (z (13*i + 73)) (nI 0)
def vmZ (z : Nat → Int32) : Int32 := nI 0 + (z 32 + z 33) + (z 40 + z 41) + (z 48 + z 49) + (z 56 + z 57)
def wcN (z : Nat → Int32) : Nat → Int32
  | 0 => nI 0
  | i + 1 => wcN z i + z (13*i + 74)
noncomputable def cmN (z : Nat → Int32) : Nat → Int32
  | 0 => nI 0
  | i + 1 => cmN z i + bI (¬ z (13*i + 70) = -1)
/-! ranks -/
def cN (z : Nat → Int32) (i : Nat) : Nat := (cst z i).toNatClampNeg
def aN (z : Nat → Int32) (i : Nat) : Nat := (z (13*i + 70)).toNatClampNeg
noncomputable def rkW (z : Nat → Int32) (k : Int32) (i : Nat) : Option Nat := iF (z (13*i + 68) = nI 1 ∧ (¬ k = 0 ∨ ¬ hld z i)) (some ((gN z i (nI 0) * 10000 + cN z i) * 20 + (19 - i))) none
noncomputable def rkC (z : Nat → Int32) (i : Nat) : Option Nat := iF (wts z i) (some (aN z i * 20 + (19 - i))) none
def nbr (r : Nat) : Nat := 19 - r % 20
theorem cN_e {z : Nat → Int32} {i : Nat} (h : iv z) (hi : i < cn z) : cst z i = nI (cN z i) ∧ cN z i ≤ 9999 := by
  obtain ⟨c, h1, h2, h3⟩ := rg_nI (h.2.2.2.1 (up z i) (iv_upl h hi)).1 (by decide)
  have e : cst z i = nI c := h1
  unfold cN
  rw [e, nI_clamp (by omega)]
  exact ⟨rfl, by omega⟩
theorem aN_e {z : Nat → Int32} {i : Nat} (h : iv z) (hi : i < cn z) (hw : ¬ z (13*i + 70) = -1) : z (13*i + 70) = nI (aN z i) ∧ aN z i ≤ 9999 := by
  have a := (iv_u h hi).2.2.2.2.1
  have b : 0 ≤ (z (13*i + 70)).toInt := by
    unfold rg at a
    rw [i_eq, i_m1] at hw
    omega
  have k := rg_n ⟨b, a.2⟩ (Int.le_refl 0)
  unfold aN
  exact ⟨k.1, by have := a.2; omega⟩
theorem wk_tst {z : Nat → Int32} {i : Nat} (h : iv z) (hi : i < cn z) (hw : z (13*i + 68) = nI 1) : tst z i := tst_i.mpr ((iv_u h hi).2.2.2.2.2.2.2 hw)
theorem rkW_e {z : Nat → Int32} {i : Nat} (h : iv z) (hi : i < cn z) (hw : z (13*i + 68) = nI 1) : ((grT z i * nI 10000 + cst z i) * nI 20 + (nI 19 - nI i)) = nI ((gN z i (nI 0) * 10000 + cN z i) * 20 + (19 - i)) := by
  have c20 := iv_c h
  rw [grT_t (wk_tst h hi hw), gN_e.1, (cN_e h hi).1, pk_mul, nI_add, pk_mul, pk_sub (by omega), nI_add]
theorem rkC_e {z : Nat → Int32} {i : Nat} (h : iv z) (hi : i < cn z) (hw : wts z i) : z (13*i + 70) * nI 20 + (nI 19 - nI i) = nI (aN z i * 20 + (19 - i)) := by
  have c20 := iv_c h
  rw [(aN_e h hi hw.1).1, pk_mul, pk_sub (by omega), nI_add]
/-- a rank tells its unit; ranks are small -/
def rkOK (R : Nat → Option Nat) (n : Nat) : Prop := ∀ i r, i < n → R i = some r → nbr r = i ∧ r < 1000000
theorem nbr_e {a i : Nat} (hi : i < 20) : nbr (a * 20 + (19 - i)) = i := by
  unfold nbr
  omega
theorem rkW_ok {z : Nat → Int32} {k : Int32} (h : iv z) : rkOK (rkW z k) (cn z) := by
  intro i r hi hr
  have c20 := iv_c h
  unfold rkW at hr
  by_cases q : z (13*i + 68) = nI 1 ∧ (¬ k = 0 ∨ ¬ hld z i)
  · rw [iF_t q] at hr
    cases hr
    have g := (gN_e (z := z) (u := i) (k := nI 0)).2
    have c := (cN_e h hi).2
    exact ⟨nbr_e (by omega), by omega⟩
  · rw [iF_f q] at hr; cases hr
theorem rkC_ok {z : Nat → Int32} (h : iv z) : rkOK (rkC z) (cn z) := by
  intro i r hi hr
  have c20 := iv_c h
  unfold rkC at hr
  by_cases q : wts z i
  · rw [iF_t q] at hr
    cases hr
    have c := (aN_e h hi q.1).2
    exact ⟨nbr_e (by omega), by omega⟩
  · rw [iF_f q] at hr; cases hr
/-- the next rank below b among the first n -/
noncomputable def nrk (R : Nat → Option Nat) (b : Nat) : Nat → Option Nat
  | 0 => none
  | i + 1 => match R i with
    | none => nrk R b i
    | some r => iF (r < b ∧ ∀ m, nrk R b i = some m → m < r) (some r) (nrk R b i)
theorem nrk_n {R : Nat → Option Nat} {b i : Nat} (h : R i = none) : nrk R b (i + 1) = nrk R b i := by
  show (match R i with | none => nrk R b i | some r => _) = _
  rw [h]
theorem nrk_s {R : Nat → Option Nat} {b i r : Nat} (h : R i = some r) : nrk R b (i + 1) = iF (r < b ∧ ∀ m, nrk R b i = some m → m < r) (some r) (nrk R b i) := by
  show (match R i with | none => nrk R b i | some r => _) = _
  rw [h]
theorem nrk_spec {R : Nat → Option Nat} {b : Nat} : ∀ n, (∀ r, nrk R b n = some r → ∃ i, i < n ∧ R i = some r ∧ r < b) ∧ (∀ i r, i < n → R i = some r → r < b → ∃ m, nrk R b n = some m ∧ r ≤ m)
  | 0 => ⟨fun r h => (by cases h), fun i r h => absurd h (by omega)⟩
  | n + 1 => by
    obtain ⟨a, c⟩ := nrk_spec (R := R) (b := b) n
    cases hR : R n with
    | none =>
      rw [nrk_n hR]
      refine ⟨fun r h => ?_, fun i r hi hr hb => ?_⟩
      · obtain ⟨i, h1, h2⟩ := a r h
        exact ⟨i, by omega, h2⟩
      · have : i ≠ n := fun q => by rw [q, hR] at hr; cases hr
        exact c i r (by omega) hr hb
    | some q =>
      rw [nrk_s hR]
      by_cases k : q < b ∧ ∀ m, nrk R b n = some m → m < q
      · rw [iF_t k]
        refine ⟨fun r h => ?_, fun i r hi hr hb => ⟨q, rfl, ?_⟩⟩
        · cases h; exact ⟨n, by omega, hR, k.1⟩
        · by_cases e : i = n
          · rw [e, hR] at hr; cases hr; exact Nat.le_refl _
          · obtain ⟨m, h1, h2⟩ := c i r (by omega) hr hb
            have := k.2 m h1
            omega
      · rw [iF_f k]
        refine ⟨fun r h => ?_, fun i r hi hr hb => ?_⟩
        · obtain ⟨i, h1, h2⟩ := a r h
          exact ⟨i, by omega, h2⟩
        · by_cases e : i = n
          · rw [e, hR] at hr
            cases hr
            apply Classical.byContradiction
            intro hx
            refine k ⟨hb, fun m hm => ?_⟩
            apply Classical.byContradiction
            intro hmr
            exact hx ⟨m, hm, by omega⟩
          · exact c i r (by omega) hr hb
theorem nrk_lt {R : Nat → Option Nat} {b n r : Nat} (hR : rkOK R n) (h : nrk R b n = some r) : nbr r < n ∧ R (nbr r) = some r ∧ r < b ∧ r < 1000000 := by
  obtain ⟨i, h1, h2, h3⟩ := (nrk_spec n).1 r h
  obtain ⟨e, s⟩ := hR i r h1 h2
  rw [e]
  exact ⟨h1, h2, h3, s⟩
/-- the ranks of an order one by one -/
noncomputable def rkS (R : Nat → Option Nat) (n : Nat) : Nat → Option Nat
  | 0 => nrk R 1000000000 n
  | k + 1 => match rkS R n k with
    | none => none
    | some r => nrk R r n
theorem rkS_n {R : Nat → Option Nat} {n k : Nat} (h : rkS R n k = none) : rkS R n (k + 1) = none := by
  show (match rkS R n k with | none => none | some r => nrk R r n) = _
  rw [h]
theorem rkS_s {R : Nat → Option Nat} {n k r : Nat} (h : rkS R n k = some r) : rkS R n (k + 1) = nrk R r n := by
  show (match rkS R n k with | none => none | some r => nrk R r n) = _
  rw [h]
theorem rkS_stop {R : Nat → Option Nat} {n k : Nat} (h : rkS R n k = none) : ∀ j, rkS R n (k + j) = none
  | 0 => h
  | j + 1 => rkS_n (rkS_stop h j)
theorem rkS_lt {R : Nat → Option Nat} {n : Nat} (hR : rkOK R n) : ∀ k r, rkS R n k = some r → nbr r < n ∧ r < 1000000
  | 0, r, h => by have := nrk_lt hR h; exact ⟨this.1, this.2.2.2⟩
  | k + 1, r, h => by
    cases hk : rkS R n k with
    | none => rw [rkS_n hk] at h; cases h
    | some q => rw [rkS_s hk] at h; have := nrk_lt hR h; exact ⟨this.1, this.2.2.2⟩
def oN (b : Option Nat) : Option Nat := b.map nbr
/-! the reference's choice is the greatest rank -/
theorem im_lt {a b : Nat} (ha : a < 2 ^ 30) (hb : b < 2 ^ 30) : 0 < nI a - nI b ↔ b < a := by
  rw [Int32.lt_iff_toInt_lt, pk_sub_toInt ha hb, i_0]
  omega
theorem im_eq {a b : Nat} (ha : a < 2 ^ 30) (hb : b < 2 ^ 30) : nI a - nI b = 0 ↔ a = b := by
  rw [i_eq, pk_sub_toInt ha hb, i_0]
  omega
theorem wf_rk {z : Nat → Int32} {i j : Nat} (h : iv z) (hi : i < cn z) (hj : j < i) : wf z i j ↔ (gN z j (nI 0) * 10000 + cN z j) * 20 + (19 - j) < (gN z i (nI 0) * 10000 + cN z i) * 20 + (19 - i) := by
  have c20 := iv_c h
  have gi := (gN_e (z := z) (u := i) (k := nI 0)).2
  have gj := (gN_e (z := z) (u := j) (k := nI 0)).2
  obtain ⟨ei, ci⟩ := cN_e h hi
  obtain ⟨ej, cj⟩ := cN_e h (i := j) (by omega)
  unfold wf wfb
  rw [(gN_e (z := z) (u := i)).1, (gN_e (z := z) (u := j)).1, ei, ej]
  by_cases q : gN z i (nI 0) = gN z j (nI 0)
  · rw [iF_t ((im_eq (by omega) (by omega)).mpr q), im_lt (by omega) (by omega), im_eq (by omega) (by omega)]
    omega
  · have q2 : ¬ nI (gN z i (nI 0)) - nI (gN z j (nI 0)) = 0 := fun e => q ((im_eq (by omega) (by omega)).mp e)
    rw [iF_f q2, im_lt (by omega) (by omega)]
    constructor
    · rintro (k | ⟨k, -⟩)
      · omega
      · exact absurd k q2
    · intro k
      left
      omega
theorem rkW_s {z : Nat → Int32} {k : Int32} {i : Nat} (h : z (13*i + 68) = nI 1 ∧ (¬ k = 0 ∨ ¬ hld z i)) : rkW z k i = some ((gN z i (nI 0) * 10000 + cN z i) * 20 + (19 - i)) := iF_t h
theorem rkW_n {z : Nat → Int32} {k : Int32} {i : Nat} (h : ¬ (z (13*i + 68) = nI 1 ∧ (¬ k = 0 ∨ ¬ hld z i))) : rkW z k i = none := iF_f h
theorem rkC_s {z : Nat → Int32} {i : Nat} (h : wts z i) : rkC z i = some (aN z i * 20 + (19 - i)) := iF_t h
theorem rkC_n {z : Nat → Int32} {i : Nat} (h : ¬ wts z i) : rkC z i = none := iF_f h
theorem nw_rk {z : Nat → Int32} {d k : Int32} {b : Nat} (h : iv z) : ∀ n, n ≤ cn z → (∀ u r, u < n → rkW z k u = some r → (bit d u = 0 ↔ r < b)) → nw z d k n = oN (nrk (rkW z k) b n)
  | 0, _, _ => rfl
  | n + 1, hn, hb => by
    have ih := nw_rk h n (by omega) fun u r hu => hb u r (by omega)
    have hok := rkW_ok (k := k) h
    show iF (may z d k n ∧ (nw z d k n = none ∨ ∃ j, nw z d k n = some j ∧ wf z n j)) (some n) (nw z d k n) = _
    by_cases q : z (13*n + 68) = nI 1 ∧ (¬ k = 0 ∨ ¬ hld z n)
    · have hR := rkW_s q
      have hbn := hb n _ (by omega) hR
      have nb := (hok n _ (by omega) hR).1
      rw [nrk_s hR]
      cases hm : nrk (rkW z k) b n with
      | none =>
        rw [hm] at ih
        by_cases qb : bit d n = 0
        · rw [iF_t ⟨⟨q.1, qb, q.2⟩, Or.inl ih⟩, iF_t ⟨hbn.mp qb, fun m e => by cases e⟩]
          exact congrArg some nb.symm
        · rw [iF_f (fun e => qb e.1.2.1), iF_f (fun e => qb (hbn.mpr e.1)), ih]
      | some m =>
        rw [hm] at ih
        have hml := nrk_lt (fun i r hi => hok i r (by omega)) hm
        have ih : nw z d k n = some (nbr m) := ih
        have qj : z (13*nbr m + 68) = nI 1 ∧ (¬ k = 0 ∨ ¬ hld z (nbr m)) := by
          apply Classical.byContradiction
          intro e
          have := hml.2.1
          rw [rkW_n e] at this
          cases this
        have em : m = (gN z (nbr m) (nI 0) * 10000 + cN z (nbr m)) * 20 + (19 - nbr m) := by
          have := hml.2.1
          rw [rkW_s qj] at this
          exact (Option.some.inj this).symm
        have w := wf_rk h (i := n) (j := nbr m) (by omega) hml.1
        rw [← em] at w
        by_cases qb : bit d n = 0 ∧ m < (gN z n (nI 0) * 10000 + cN z n) * 20 + (19 - n)
        · rw [iF_t ⟨⟨q.1, qb.1, q.2⟩, Or.inr ⟨_, ih, w.mpr qb.2⟩⟩, iF_t ⟨hbn.mp qb.1, fun m' e => by cases e; exact qb.2⟩]
          exact congrArg some nb.symm
        · rw [iF_f (fun e => qb ⟨e.1.2.1, ?_⟩), iF_f (fun e => qb ⟨hbn.mpr e.1, e.2 m rfl⟩), ih]
          · rfl
          · rcases e.2 with e2 | ⟨j, e2, e3⟩
            · rw [ih] at e2; cases e2
            · rw [ih] at e2; cases e2; exact w.mp e3
    · rw [nrk_n (rkW_n q), iF_f (fun e => q ⟨e.1.1, e.1.2.2⟩), ih]
theorem nc_rk {z : Nat → Int32} {d : Int32} {b : Nat} (h : iv z) : ∀ n, n ≤ cn z → (∀ u r, u < n → rkC z u = some r → (bit d u = 0 ↔ r < b)) → nc z d n = oN (nrk (rkC z) b n)
  | 0, _, _ => rfl
  | n + 1, hn, hb => by
    have ih := nc_rk h n (by omega) fun u r hu => hb u r (by omega)
    have hok := rkC_ok h
    have c20 := iv_c h
    show iF (cay z d n ∧ (nc z d n = none ∨ ∃ j, nc z d n = some j ∧ ¬ z (13*n + 70) ≤ z (13*j + 70))) (some n) (nc z d n) = _
    by_cases q : wts z n
    · have hR := rkC_s q
      have hbn := hb n _ (by omega) hR
      have nb := (hok n _ (by omega) hR).1
      rw [nrk_s hR]
      cases hm : nrk (rkC z) b n with
      | none =>
        rw [hm] at ih
        by_cases qb : bit d n = 0
        · rw [iF_t ⟨⟨q, qb⟩, Or.inl ih⟩, iF_t ⟨hbn.mp qb, fun m e => by cases e⟩]
          exact congrArg some nb.symm
        · rw [iF_f (fun e => qb e.1.2), iF_f (fun e => qb (hbn.mpr e.1)), ih]
      | some m =>
        rw [hm] at ih
        have hml := nrk_lt (fun i r hi => hok i r (by omega)) hm
        have ih : nc z d n = some (nbr m) := ih
        have qj : wts z (nbr m) := by
          apply Classical.byContradiction
          intro e
          have := hml.2.1
          rw [rkC_n e] at this
          cases this
        have em : m = aN z (nbr m) * 20 + (19 - nbr m) := by
          have := hml.2.1
          rw [rkC_s qj] at this
          exact (Option.some.inj this).symm
        obtain ⟨e1, e2⟩ := aN_e h (i := n) (by omega) q.1
        obtain ⟨f1, f2⟩ := aN_e h (i := nbr m) (by omega) qj.1
        have w : ¬ z (13*n + 70) ≤ z (13*nbr m + 70) ↔ m < aN z n * 20 + (19 - n) := by
          rw [e1, f1, nI_leI (by omega) (by omega)]
          have := hml.1
          omega
        by_cases qb : bit d n = 0 ∧ m < aN z n * 20 + (19 - n)
        · rw [iF_t ⟨⟨q, qb.1⟩, Or.inr ⟨_, ih, w.mpr qb.2⟩⟩, iF_t ⟨hbn.mp qb.1, fun m' e => by cases e; exact qb.2⟩]
          exact congrArg some nb.symm
        · rw [iF_f (fun e => qb ⟨e.1.2, ?_⟩), iF_f (fun e => qb ⟨hbn.mpr e.1, e.2 m rfl⟩), ih]
          · rfl
          · rcases e.2 with e2 | ⟨j, e2, e3⟩
            · rw [ih] at e2; cases e2
            · rw [ih] at e2; cases e2; exact w.mp e3
    · rw [nrk_n (rkC_n q), iF_f (fun e => q e.1.1), ih]
/-- taking one away -/
theorem bit_step {R : Nat → Option Nat} {n b r u q : Nat} {d : Int32} (hn : n ≤ 20) (hR : rkOK R n) (hr : nrk R b n = some r) (hu : u < n) (hq : R u = some q) (h : bit d u = 0 ↔ q < b) : bit (d ||| (nI 1 <<< (nI (nbr r) &&& 31))) u = 0 ↔ q < r := by
  have hl := nrk_lt hR hr
  rw [bit_or1 (by omega) (by omega), h]
  constructor
  · rintro ⟨h1, h2⟩
    obtain ⟨m, e1, e2⟩ := (nrk_spec n).2 u q hu hq h1
    rw [hr] at e1
    cases e1
    have : q ≠ r := fun e => by
      have := (hR u q hu hq).1
      rw [e] at this
      exact h2 this.symm
    omega
  · intro k
    refine ⟨by omega, fun e => ?_⟩
    rw [e] at hq
    have := hl.2.1.symm.trans hq
    cases this
    omega
theorem wa_rk {z : Nat → Int32} (h : iv z) : ∀ k, (wa z k).2 = oN (rkS (rkW z (nI 1)) (cn z) k) ∧ ∀ r, rkS (rkW z (nI 1)) (cn z) k = some r → ∃ b, nrk (rkW z (nI 1)) b (cn z) = some r ∧ ∀ u q, u < cn z → rkW z (nI 1) u = some q → (bit (wa z k).1 u = 0 ↔ q < b)
  | 0 => by
    have c20 := iv_c h
    have hb : ∀ u q, u < cn z → rkW z (nI 1) u = some q → (bit (nI 0) u = 0 ↔ q < 1000000000) := fun u q hu hq => by
      have := (rkW_ok h u q hu hq).2
      exact ⟨fun _ => by omega, fun _ => bit_0 (by omega)⟩
    exact ⟨nw_rk h _ (Nat.le_refl _) hb, fun r hr => ⟨_, hr, hb⟩⟩
  | k + 1 => by
    have c20 := iv_c h
    obtain ⟨i1, i2⟩ := wa_rk h k
    cases hk : rkS (rkW z (nI 1)) (cn z) k with
    | none =>
      rw [hk] at i1
      rw [wa_n i1, rkS_n hk]
      exact ⟨i1, fun r hr => by cases hr⟩
    | some r =>
      obtain ⟨b, b1, b2⟩ := i2 r hk
      rw [hk] at i1
      have i1 : (wa z k).2 = some (nbr r) := i1
      rw [wa_s i1, rkS_s hk]
      have hb : ∀ u q, u < cn z → rkW z (nI 1) u = some q → (bit ((wa z k).1 ||| (nI 1 <<< (nI (nbr r) &&& 31))) u = 0 ↔ q < r) := fun u q hu hq => bit_step c20 (rkW_ok h) b1 hu hq (b2 u q hu hq)
      exact ⟨nw_rk h _ (Nat.le_refl _) hb, fun r' hr' => ⟨_, hr', hb⟩⟩
theorem ca_rk {z : Nat → Int32} (h : iv z) : ∀ k, (ca z k).2 = oN (rkS (rkC z) (cn z) k) ∧ ∀ r, rkS (rkC z) (cn z) k = some r → ∃ b, nrk (rkC z) b (cn z) = some r ∧ ∀ u q, u < cn z → rkC z u = some q → (bit (ca z k).1 u = 0 ↔ q < b)
  | 0 => by
    have c20 := iv_c h
    have hb : ∀ u q, u < cn z → rkC z u = some q → (bit (nI 0) u = 0 ↔ q < 1000000000) := fun u q hu hq => by
      have := (rkC_ok h u q hu hq).2
      exact ⟨fun _ => by omega, fun _ => bit_0 (by omega)⟩
    exact ⟨nc_rk h _ (Nat.le_refl _) hb, fun r hr => ⟨_, hr, hb⟩⟩
  | k + 1 => by
    have c20 := iv_c h
    obtain ⟨i1, i2⟩ := ca_rk h k
    cases hk : rkS (rkC z) (cn z) k with
    | none =>
      rw [hk] at i1
      rw [ca_n i1, rkS_n hk]
      exact ⟨i1, fun r hr => by cases hr⟩
    | some r =>
      obtain ⟨b, b1, b2⟩ := i2 r hk
      rw [hk] at i1
      have i1 : (ca z k).2 = some (nbr r) := i1
      rw [ca_s i1, rkS_s hk]
      have hb : ∀ u q, u < cn z → rkC z u = some q → (bit ((ca z k).1 ||| (nI 1 <<< (nI (nbr r) &&& 31))) u = 0 ↔ q < r) := fun u q hu hq => bit_step c20 (rkC_ok h) b1 hu hq (b2 u q hu hq)
      exact ⟨nc_rk h _ (Nat.le_refl _) hb, fun r' hr' => ⟨_, hr', hb⟩⟩
theorem nw_max {z : Nat → Int32} (h : iv z) : nw z (nI 0) (nI 0) (cn z) = oN (nrk (rkW z (nI 0)) 1000000000 (cn z)) := by
  have c20 := iv_c h
  refine nw_rk h _ (Nat.le_refl _) fun u q hu hq => ?_
  have := (rkW_ok h u q hu hq).2
  exact ⟨fun _ => by omega, fun _ => bit_0 (by omega)⟩
theorem m1_le {r : Nat} (h : r < 2 ^ 31) : (-1 : Int32) ≤ nI r := by
  apply Int32.le_iff_toInt_le.mpr
  rw [i_m1, nI_toInt h]
  omega
theorem nI_nlm1 {r : Nat} (h : r < 2 ^ 31) : ¬ nI r ≤ (-1 : Int32) := fun q => by
  have k := Int32.le_iff_toInt_le.mp q
  rw [i_m1, nI_toInt h] at k
  omega
