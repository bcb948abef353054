/-! ===== words of the class's own ways, and that they are the reference's ===== -/
theorem mmax_i {x y : Int32} : (mmaxI x y).toInt = max x.toInt y.toInt := by
  unfold mmaxI
  by_cases h : x < y
  · rw [if_pos h]; have := Int32.lt_iff_toInt_lt.mp h; omega
  · rw [if_neg h]; have : ¬ x.toInt < y.toInt := fun q => h (Int32.lt_iff_toInt_lt.mpr q); omega
theorem mmin_i {x y : Int32} : (mminI x y).toInt = min x.toInt y.toInt := by
  unfold mminI
  by_cases h : y < x
  · rw [if_pos h]; have := Int32.lt_iff_toInt_lt.mp h; omega
  · rw [if_neg h]; have : ¬ y.toInt < x.toInt := fun q => h (Int32.lt_iff_toInt_lt.mpr q); omega
theorem i_eq {x y : Int32} : x = y ↔ x.toInt = y.toInt := Int32.toInt_inj.symm
theorem i_0 : (0 : Int32).toInt = 0 := by decide
theorem i_m1 : (-1 : Int32).toInt = -1 := by decide
theorem inR_no {x : Int32} {n : Nat} (hn : n < 2 ^ 31) (h : x < 0 ∨ nI n ≤ x) : ¬ inR x n := by
  rintro ⟨j, h1, h2⟩
  subst h2
  rcases h with h | h
  · exact nI_pos (by omega) h
  · exact nI_ge h1 hn h
theorem inR_in {x : Int32} {n : Nat} (hn : n < 2 ^ 31) (h : ¬ x < 0) (h2 : ¬ nI n ≤ x) : inR x n := by
  obtain ⟨j, h3, h4⟩ := nI_of h
  subst h4
  exact ⟨j, Nat.not_le.mp fun q => h2 (nI_le q h3), rfl⟩
theorem sc_rg {z : Nat → Int32} {u : Nat} (h : iv z) (hu : u < cn z) : rg (z (13*u + 64)) (-1) 9 ∧ rg (z (13*u + 65)) (-1) 9 ∧ rg (z (13*u + 66)) (-1) 9 ∧ rg (z (13*u + 67)) (-1) 9 := (iv_u h hu).2.2.1
def lw (z : Nat → Int32) (u : Nat) : Int32 := mminI (mminI (mminI (mminI (nI 9) (z (13*u + 64))) (z (13*u + 65))) (z (13*u + 66))) (z (13*u + 67))
def sl (z : Nat → Int32) (u : Nat) (k : Int32) : Int32 := (nI 0 + mmaxI (z (13*u + 64)) k) + mmaxI (z (13*u + 65)) k + mmaxI (z (13*u + 66)) k + mmaxI (z (13*u + 67)) k
def her (z : Nat → Int32) (u : Nat) : Prop := z (13*u + 68) = 0 ∨ z (13*u + 68) = nI 1
theorem lw_i {z : Nat → Int32} {u : Nat} : (lw z u).toInt = min (min (min (min 9 (z (13*u + 64)).toInt) (z (13*u + 65)).toInt) (z (13*u + 66)).toInt) (z (13*u + 67)).toInt := by
  unfold lw
  rw [mmin_i, mmin_i, mmin_i, mmin_i, nI_toInt (by decide)]
  rfl
theorem tst_i {z : Nat → Int32} {u : Nat} : tst z u ↔ 0 ≤ (z (13*u + 64)).toInt ∧ 0 ≤ (z (13*u + 65)).toInt ∧ 0 ≤ (z (13*u + 66)).toInt ∧ 0 ≤ (z (13*u + 67)).toInt := by
  unfold tst
  rw [Int32.le_iff_toInt_le, Int32.le_iff_toInt_le, Int32.le_iff_toInt_le, Int32.le_iff_toInt_le, i_0]
theorem lw_t {z : Nat → Int32} {u : Nat} (h : iv z) (hu : u < cn z) : lw z u = -1 ↔ ¬ tst z u := by
  obtain ⟨a, b, c, d⟩ := sc_rg h hu
  unfold rg at a b c d
  rw [i_eq, lw_i, i_m1, tst_i]
  omega
theorem scr_0 {z : Nat → Int32} {u t : Nat} : scr z u t (nI 0) = z (13*u + t + 64) := iF_f fun h => h.1 nI_0
theorem scr_1 {z : Nat → Int32} {u t : Nat} : scr z u t (nI 1) = mmaxI (z (13*u + t + 64)) (nI 7) := by
  unfold scr mmaxI
  by_cases c : z (13*u + t + 64) < nI 7
  · rw [iF_t ⟨nI_ne10, c⟩, if_pos c]
  · rw [iF_f (fun q => c q.2), if_neg c]
theorem zer_0 {z : Nat → Int32} {u : Nat} : zer z u (nI 0) ↔ z (13*u + 64) = 0 ∨ z (13*u + 65) = 0 ∨ z (13*u + 66) = 0 ∨ z (13*u + 67) = 0 := by
  unfold zer
  rw [scr_0, scr_0, scr_0, scr_0]
theorem lw_0 {z : Nat → Int32} {u : Nat} (h : iv z) (hu : u < cn z) (ht : tst z u) : lw z u = 0 ↔ zer z u (nI 0) := by
  obtain ⟨a, b, c, d⟩ := sc_rg h hu
  unfold rg at a b c d
  rw [tst_i] at ht
  rw [zer_0, i_eq, i_eq, i_eq, i_eq, i_eq, lw_i, i_0]
  omega
theorem sl_7 {z : Nat → Int32} {u : Nat} : sl z u (nI 7) = smm z u (nI 1) := by
  unfold sl smm
  rw [scr_1, scr_1, scr_1, scr_1]
theorem mmax_0 {x : Int32} (h : 0 ≤ x) : mmaxI x (nI 0) = x := by
  rw [i_eq, mmax_i, nI_toInt (by decide)]
  have := Int32.le_iff_toInt_le.mp h
  rw [i_0] at this
  omega
theorem sl_0 {z : Nat → Int32} {u : Nat} (ht : tst z u) : sl z u (nI 0) = smm z u (nI 0) := by
  unfold sl smm
  rw [scr_0, scr_0, scr_0, scr_0, mmax_0 ht.1, mmax_0 ht.2.1, mmax_0 ht.2.2.1, mmax_0 ht.2.2.2]
theorem grT_n {z : Nat → Int32} {u : Nat} (ht : ¬ tst z u) : grT z u = -1 := iF_f ht
theorem grT_t {z : Nat → Int32} {u : Nat} (ht : tst z u) : grT z u = gr z u (nI 0) := iF_t ht
theorem gr_a {z : Nat → Int32} {u : Nat} (h : iv z) (hu : u < cn z) (ht : tst z u) (h0 : lw z u = 0) : mmaxI (gsm z (sl z u (nI 0))) (nI 2) = gr z u (nI 0) := by
  have hz := (lw_0 h hu ht).mp h0
  rw [sl_0 ht]
  unfold gr mmaxI
  by_cases c : gsm z (smm z u (nI 0)) < nI 2
  · rw [if_pos c, iF_t ⟨hz, Int32.not_le.mpr c⟩]
  · rw [if_neg c, iF_f (fun q => q.2 (Int32.not_lt.mp c))]
theorem gr_b {z : Nat → Int32} {u : Nat} (h : iv z) (hu : u < cn z) (ht : tst z u) (h0 : ¬ lw z u = 0) : gsm z (sl z u (nI 0)) = gr z u (nI 0) := by
  rw [sl_0 ht]
  exact (iF_f fun q => h0 ((lw_0 h hu ht).mpr q.1)).symm
theorem mmax_7 {x : Int32} : ¬ mmaxI x (nI 7) = 0 := by
  rw [i_eq, mmax_i, nI_toInt (by decide), i_0]
  omega
theorem gr_1 {z : Nat → Int32} {u : Nat} : gsm z (sl z u (nI 7)) = gr z u (nI 1) := by
  rw [sl_7]
  refine (iF_f fun q => ?_).symm
  have k := q.1
  unfold zer at k
  rw [scr_1, scr_1, scr_1, scr_1] at k
  rcases k with k | k | k | k <;> exact mmax_7 k
theorem rpc_e {z : Nat → Int32} {u : Nat} (ht : tst z u) : (sl z u (nI 7) - sl z u (nI 0)) * z 11 = rpc z u := by
  unfold rpc
  congr 1
  rw [sl_7, sl_0 ht]
  unfold smm pts
  generalize scr z u 0 (nI 1) = a
  generalize scr z u 1 (nI 1) = b
  generalize scr z u 2 (nI 1) = c
  generalize scr z u 3 (nI 1) = d
  generalize scr z u 0 (nI 0) = a'
  generalize scr z u 1 (nI 0) = b'
  generalize scr z u 2 (nI 0) = c'
  generalize scr z u 3 (nI 0) = d'
  rw [nI_0]
  simp only [Int32.sub_eq_add_neg, Int32.neg_add, Int32.zero_add]
  ac_rfl
theorem her_hld {z : Nat → Int32} {u : Nat} (h : iv z) (hu : u < cn z) : hld z u ↔ her z u ∧ ¬ z (3*up z u + 14) = 0 := by
  have a := (iv_u h hu).2.2.2.1
  have b := (h.2.2.2.1 (up z u) (iv_upl h hu)).2.2
  unfold rg at a b
  unfold hld her
  rw [i_eq, i_eq, i_eq, i_eq, Int32.lt_iff_toInt_lt, i_0, nI_toInt (by decide), nI_toInt (by decide)]
  omega
/-! grades as numbers -/
noncomputable def gN (z : Nat → Int32) (u : Nat) (k : Int32) : Nat := (gr z u k).toNatClampNeg
theorem gN_e {z : Nat → Int32} {u : Nat} {k : Int32} : gr z u k = nI (gN z u k) ∧ gN z u k ≤ 3 := by
  obtain ⟨g, h1, h2⟩ := gr_n z u k
  unfold gN
  rw [h2, nI_clamp (by omega)]
  exact ⟨rfl, h1⟩
theorem prt_0 : prt (nI 0) = nI 90 := iF_t nI_0
theorem prt_1 : prt (nI 1) = nI 70 := (iF_f (by decide)).trans (iF_t rfl)
theorem prt_2 : prt (nI 2) = nI 40 := (iF_f (by decide)).trans ((iF_f (by decide)).trans (iF_t rfl))
theorem prt_3 : prt (nI 3) = nI 0 := (iF_f (by decide)).trans ((iF_f (by decide)).trans (iF_f (by decide)))
theorem prc_0 {z : Nat → Int32} {u : Nat} : prc z u (nI 0) = cst z u * nI 90 / nI 100 := by unfold prc; rw [prt_0]
theorem prc_1 {z : Nat → Int32} {u : Nat} : prc z u (nI 1) = cst z u * nI 70 / nI 100 := by unfold prc; rw [prt_1]
theorem prc_2 {z : Nat → Int32} {u : Nat} : prc z u (nI 2) = cst z u * nI 40 / nI 100 := by unfold prc; rw [prt_2]
theorem prc_3 {z : Nat → Int32} {u : Nat} : prc z u (nI 3) = nI 0 := by
  unfold prc
  rw [prt_3, nI_0, Int32.mul_zero]
  decide
theorem brg_2 {z : Nat → Int32} {u : Nat} : brg z u 2 = prc z u (gr z u (nI 0)) := iF_t rfl
theorem brg_4 {z : Nat → Int32} {u : Nat} : brg z u 4 = cst z u := (iF_f (by decide)).trans (iF_t rfl)
theorem brg_1 {z : Nat → Int32} {u : Nat} : brg z u 1 = nI 0 := (iF_f (by decide)).trans (iF_f (by decide))
theorem brg_3 {z : Nat → Int32} {u : Nat} : brg z u 3 = nI 0 := (iF_f (by decide)).trans (iF_f (by decide))
theorem gr_nm {z : Nat → Int32} {u : Nat} {k : Int32} (h : gr z u k = -1) : False := by
  have g := gN_e (z := z) (u := u) (k := k)
  rw [h] at g
  exact nI_nm1 (j := gN z u k) (by omega) g.1.symm
theorem lt2_le1 {x : Int32} (h : x < nI 2) : x ≤ nI 1 := by
  have k := Int32.lt_iff_toInt_lt.mp h
  rw [nI_toInt (by decide)] at k
  apply Int32.le_iff_toInt_le.mpr
  rw [nI_toInt (by decide)]
  omega
theorem le1_lt2 {x : Int32} (h : x ≤ nI 1) : x < nI 2 := by
  have k := Int32.le_iff_toInt_le.mp h
  rw [nI_toInt (by decide)] at k
  apply Int32.lt_iff_toInt_lt.mpr
  rw [nI_toInt (by decide)]
  omega
