/-! ===== doubles: normal ones, by sign, digits, exponent ===== -/
def fpN (d : UInt64) (s : Bool) (c : Nat) (q : Int) : Prop := FP.Core.val64 d = .fin s c q ∧ 2 ^ 52 ≤ c ∧ c < 2 ^ 53
theorem fp_qmin : FP.Core.b64.qmin = -1074 := by decide
theorem fp_qmax : FP.Core.b64.qmax = 971 := by decide
theorem fp_tails : FP.Core.b64.tails = 2 ^ 52 := by decide
theorem fp_fits {s : Bool} {c : Nat} {q : Int} (h1 : 2 ^ 52 ≤ c) (h2 : c < 2 ^ 53) (h3 : -1000 ≤ q) (h4 : q ≤ 900) : FP.Core.fits FP.Core.b64 (.fin s c q) := by
  refine ⟨h2, by rw [fp_qmin]; omega, by rw [fp_qmax]; omega, Or.inr ?_⟩
  rw [fp_tails]; exact h1
theorem fp_nn {d : UInt64} (h : FP.Core.val64 d ≠ .nan) : vf_n64 d := by
  have k := (FP.Core.ne_nan d).mp h
  unfold vf_n64
  rw [UInt64.le_iff_toNat_le, UInt64.toNat_and]
  rw [show (0x7fffffffffffffff : UInt64).toNat = 2 ^ 63 - 1 by decide, Nat.and_two_pow_sub_one_eq_mod, show (0x7ff0000000000000 : UInt64).toNat = 9218868437227405312 by decide]
  exact k
theorem fpN_n {d : UInt64} {s : Bool} {c : Nat} {q : Int} (h : fpN d s c q) : vf_n64 d := fp_nn (by rw [h.1]; exact FP.Core.Datum.noConfusion)
/-- a whole number other than 0 as a double -/
theorem fp_i2d (a : Int32) (h : a.toInt ≠ 0) : ∃ (c : Nat) (q : Int), fpN (FP.i2d a) (decide (a.toInt < 0)) c q ∧ -52 ≤ q ∧ q ≤ -21 := by
  have hI : FP.Core.Whole a.toInt (FP.Core.val64 (FP.i2d a)) := FP.Core.i2d_int a
  have hf := FP.Core.val64_fits (FP.i2d a)
  have ha1 := a.toInt_lt
  have ha2 := a.le_toInt
  cases hv : FP.Core.val64 (FP.i2d a) with
  | nan => rw [hv] at hI; exact hI.elim
  | inf s => rw [hv] at hI; exact hI.elim
  | fin s c q =>
    rw [hv] at hI hf
    obtain ⟨f1, f2, f3, f4⟩ := hf
    have n := FP.Core.whole_natAbs hI
    have sg := FP.Core.whole_sign hI h
    subst sg
    have f1 : c < 2 ^ 53 := f1
    rw [fp_qmin] at f2 f4
    rw [fp_tails] at f4
    have b1 : 1 ≤ a.toInt.natAbs := by omega
    have b2 : a.toInt.natAbs ≤ 2 ^ 31 := by omega
    generalize a.toInt.natAbs = m at n b1 b2
    have hq0 : q ≤ 0 := by
      apply Classical.byContradiction
      intro hc
      have e1 : (-q).toNat = 0 := by omega
      rw [e1, Nat.pow_zero, Nat.mul_one] at n
      have c52 : 2 ^ 52 ≤ c := by omega
      have := Nat.mul_le_mul c52 (Nat.two_pow_pos q.toNat)
      omega
    have e0 : q.toNat = 0 := by omega
    rw [e0, Nat.pow_zero, Nat.mul_one] at n
    have k52 : (-q).toNat ≤ 52 := by
      apply Classical.byContradiction
      intro hc
      have p1 : 2 ^ 53 ≤ 2 ^ (-q).toNat := Nat.pow_le_pow_right (by decide) (by omega)
      have := Nat.mul_le_mul b1 p1
      omega
    have c52 : 2 ^ 52 ≤ c := by omega
    have k21 : 21 ≤ (-q).toNat := by
      apply Classical.byContradiction
      intro hc
      have p1 : 2 ^ (-q).toNat ≤ 2 ^ 20 := Nat.pow_le_pow_right (by decide) (by omega)
      have := Nat.mul_le_mul b2 p1
      omega
    exact ⟨c, q, ⟨hv, c52, f1⟩, by omega, by omega⟩
theorem fp_log {n : Nat} (h1 : 2 ^ 52 ≤ n) (h2 : n < 2 ^ 53) : n.log2 = 52 := (Nat.log2_eq_iff (by omega)).mpr ⟨h1, h2⟩
/-- a quotient of two such -/
theorem fp_div {x y : UInt64} {s t : Bool} {A B : Nat} {q r : Int} (hx : fpN x s A q) (hy : fpN y t B r) (hq : -52 ≤ q ∧ q ≤ -21) (hr : -52 ≤ r ∧ r ≤ -21) : ∃ (u : Bool) (c : Nat) (p : Int), fpN (FP.ddiv x y) u c p ∧ -90 ≤ p ∧ p ≤ 0 := by
  have hv : FP.Core.val64 (FP.ddiv x y) = FP.Core.roundRatio FP.Core.b64 (s != t) A B (q - r) := by
    rw [FP.Core.val64_ddiv, hx.1, hy.1]
    show (if B = 0 then _ else _) = _
    rw [if_neg (by have := hy.2.1; omega)]
  have hf := FP.Core.roundRatio_fits FP.Core.good_b64 (s != t) A (B := B) (by have := hy.2.1; omega) (q - r)
  have hle := FP.Core.nearest_units_le (f := FP.Core.b64) (A := A) (B := B) (by have := hx.2.1; omega) (by have := hy.2.1; omega) (q - r)
  have hQ : FP.Core.quantum FP.Core.b64 A B (q - r) = q - r - 52 ∨ FP.Core.quantum FP.Core.b64 A B (q - r) = q - r - 53 := by
    unfold FP.Core.quantum FP.Core.leading
    rw [fp_log hx.2.1 hx.2.2, fp_log hy.2.1 hy.2.2, fp_qmin, show (FP.Core.b64.p : Int) = 53 from rfl]
    by_cases c : B * 2 ^ (((52 : Nat) : Int) - ((52 : Nat) : Int)).toNat ≤ A * 2 ^ (-(((52 : Nat) : Int) - ((52 : Nat) : Int))).toNat
    · left
      simp only [c, if_true]
      omega
    · right
      simp only [c, if_false]
      omega
  have key : ∃ (u : Bool) (c : Nat) (p : Int), FP.Core.roundRatio FP.Core.b64 (s != t) A B (q - r) = .fin u c p ∧ (2 ^ 52 ≤ c ∧ c < 2 ^ 53) ∧ -90 ≤ p ∧ p ≤ 0 := by
    unfold FP.Core.roundRatio at hf ⊢
    rw [if_neg (by have := hx.2.1; omega)] at hf ⊢
    unfold FP.Core.roundAt at hf ⊢
    generalize FP.Core.quantum FP.Core.b64 A B (q - r) = Q at hf hle hQ ⊢
    generalize FP.Core.nearest (FP.Core.unitsNum A (q - r) Q) (FP.Core.unitsDen B (q - r) Q) = n at hf hle ⊢
    have hle : n ≤ 2 ^ 53 := hle
    unfold FP.Core.settle FP.Core.bound at hf ⊢
    by_cases h1 : n < 2 ^ FP.Core.b64.p
    · rw [if_pos h1, if_pos (by rw [fp_qmax]; omega)] at hf ⊢
      obtain ⟨_, _, _, f4⟩ := hf
      rw [fp_qmin, fp_tails] at f4
      exact ⟨_, n, Q, rfl, ⟨by omega, h1⟩, by omega, by omega⟩
    · rw [if_neg h1, if_pos (by rw [fp_qmax]; omega)] at hf ⊢
      exact ⟨_, _, Q + 1, rfl, ⟨by rw [fp_tails]; exact Nat.le_refl _, by rw [fp_tails]; decide⟩, by omega, by omega⟩
  obtain ⟨u, c, p, e1, e2, e3⟩ := key
  exact ⟨u, c, p, ⟨hv.trans e1, e2⟩, e3⟩
/-! halves and doubles -/
theorem fp_two : FP.Core.val64 4611686018427387904 = .fin false (2 ^ 52) (-51) := by decide +kernel
theorem fp_one : FP.Core.val64 FP.dconst1 = .fin false (2 ^ 52) (-52) := by decide +kernel
theorem fp_zero : FP.Core.val64 FP.dconst0 = .fin false 0 (-1074) := by decide +kernel
theorem fp_big : FP.Core.val64 4841369599423283200 = .fin false (2 ^ 52) 0 := by decide +kernel
theorem fp_half {x : UInt64} {c : Nat} {q : Int} (h : fpN x false c q) (h1 : -900 ≤ q) (h2 : q ≤ 900) : fpN (FP.ddiv x 4611686018427387904) false c (q - 1) := by
  refine ⟨?_, h.2⟩
  rw [FP.Core.val64_ddiv, h.1, fp_two]
  show FP.Core.roundRatio FP.Core.b64 false c (2 ^ 52) (q - (-51)) = _
  refine FP.Core.roundRatio_exact FP.Core.good_b64 (by decide) (fp_fits h.2.1 h.2.2 (by omega) (by omega)) ?_
  rw [show (q - (-51) - (q - 1)).toNat = 52 by omega, show (q - 1 - (q - (-51))).toNat = 0 by omega]
  omega
theorem fp_dbl {x : UInt64} {c : Nat} {q : Int} (h : fpN x false c q) (h1 : -900 ≤ q) (h2 : q ≤ 800) : fpN (FP.dmul x 4611686018427387904) false c (q + 1) := by
  refine ⟨?_, h.2⟩
  rw [FP.Core.val64_dmul, h.1, fp_two]
  show FP.Core.roundRatio FP.Core.b64 false (c * 2 ^ 52) 1 (q + (-51)) = _
  refine FP.Core.roundRatio_exact FP.Core.good_b64 (by decide) (fp_fits h.2.1 h.2.2 (by omega) (by omega)) ?_
  rw [show (q + (-51) - (q + 1)).toNat = 0 by omega, show (q + 1 - (q + (-51))).toNat = 52 by omega]
  omega
theorem fp_neg {x : UInt64} {c : Nat} {q : Int} (h : fpN x true c q) : fpN (FP.dneg x) false c q := by
  refine ⟨?_, h.2⟩
  rw [FP.val64_dneg, h.1]
  rfl
/-! comparisons -/
theorem fp_sg {k : Nat} : FP.Core.signed false k = (k : Int) := rfl
theorem fp_st {k : Nat} : FP.Core.signed true k = -(k : Int) := rfl
theorem fp_cmp {x t : UInt64} {c : Nat} {q k : Int} (h : fpN x false c q) (ht : FP.Core.val64 t = .fin false (2 ^ 52) k) : (q < k → FP.dcmp x t = some .lt) ∧ (k ≤ q → FP.dcmp x t = some .eq ∨ FP.dcmp x t = some .gt) := by
  have e : FP.dcmp x t = some (compare (FP.Core.signed false (FP.Core.inUnits c q (min q k))) (FP.Core.signed false (FP.Core.inUnits (2 ^ 52) k (min q k)))) := by
    show FP.Core.order (FP.Core.val64 x) (FP.Core.val64 t) = _
    rw [h.1, ht]
    rfl
  rw [e, fp_sg, fp_sg, FP.Core.compare_ite]
  unfold FP.Core.inUnits
  have h2 := h.2
  constructor
  · intro hl
    rw [show (q - min q k).toNat = 0 by omega]
    have p1 : 2 ^ 1 ≤ 2 ^ (k - min q k).toNat := Nat.pow_le_pow_right (by decide) (by omega)
    have := Nat.mul_le_mul_left (2 ^ 52) p1
    rw [if_pos (by omega)]
  · intro hl
    rw [show (k - min q k).toNat = 0 by omega]
    have p1 := Nat.two_pow_pos (q - min q k).toNat
    have := Nat.mul_le_mul h2.1 p1
    rw [if_neg (by omega)]
    by_cases c0 : ((c * 2 ^ (q - min q k).toNat : Nat) : Int) = ((2 ^ 52 * 2 ^ 0 : Nat) : Int)
    · rw [if_pos c0]; exact Or.inl rfl
    · rw [if_neg c0]; exact Or.inr rfl
theorem fp_c2 {x : UInt64} {c : Nat} {q : Int} (h : fpN x false c q) : Op.cmpValue (FP.dcmp x 4611686018427387904) .l < 0 ↔ q < -51 := by
  obtain ⟨a, b⟩ := fp_cmp h fp_two
  by_cases k : q < -51
  · rw [a k]; exact ⟨fun _ => k, fun _ => by decide⟩
  · rcases b (by omega) with e | e <;> rw [e] <;> exact ⟨fun z => absurd z (by decide), fun z => absurd z k⟩
theorem fp_c1 {x : UInt64} {c : Nat} {q : Int} (h : fpN x false c q) : 0 ≤ Op.cmpValue (FP.dcmp x FP.dconst1) .g ↔ -52 ≤ q := by
  obtain ⟨a, b⟩ := fp_cmp h fp_one
  by_cases k : q < -52
  · rw [a k]; exact ⟨fun z => absurd z (by decide), fun z => absurd z (by omega)⟩
  · rcases b (by omega) with e | e <;> rw [e] <;> exact ⟨fun _ => by omega, fun _ => by decide⟩
theorem fp_cz {x : UInt64} {s : Bool} {c : Nat} {q : Int} (h : fpN x s c q) : FP.dcmp x FP.dconst0 = some (if s then .lt else .gt) := by
  have e : FP.dcmp x FP.dconst0 = some (compare (FP.Core.signed s (FP.Core.inUnits c q (min q (-1074)))) (FP.Core.signed false (FP.Core.inUnits 0 (-1074) (min q (-1074))))) := by
    show FP.Core.order (FP.Core.val64 x) (FP.Core.val64 FP.dconst0) = _
    rw [h.1, fp_zero]
    rfl
  rw [e, fp_sg, FP.Core.compare_ite]
  unfold FP.Core.inUnits
  have h2 := h.2
  have p1 := Nat.two_pow_pos (q - min q (-1074)).toNat
  have := Nat.mul_le_mul h2.1 p1
  rw [Nat.zero_mul]
  cases s
  · rw [fp_sg, if_neg (by omega), if_neg (by omega)]; rfl
  · rw [fp_st, if_pos (by omega)]; rfl
theorem fp_c0l {x : UInt64} {s : Bool} {c : Nat} {q : Int} (h : fpN x s c q) : ¬ Op.cmpValue (FP.dcmp x FP.dconst0) .l = 0 := by
  rw [fp_cz h]
  cases s <;> decide
theorem fp_c0g {x : UInt64} {s : Bool} {c : Nat} {q : Int} (h : fpN x s c q) : 0 ≤ Op.cmpValue (FP.dcmp x FP.dconst0) .g ↔ s = false := by
  rw [fp_cz h]
  cases s <;> decide
theorem fp_alg {c n a b p m k t : Nat} (h1 : c * a = n * b) (h2 : a * m = k * p) (h3 : b * t = k) (hk : 0 < k) : c * t * p = n * m := by
  refine Nat.eq_of_mul_eq_mul_right hk ?_
  calc c * t * p * k = c * t * (k * p) := by ac_rfl
    _ = c * t * (a * m) := by rw [h2]
    _ = (c * a) * (t * m) := by ac_rfl
    _ = n * b * (t * m) := by rw [h1]
    _ = n * m * (b * t) := by ac_rfl
    _ = n * m * k := by rw [h3]
/-! the digits behind the point -/
theorem fp_fracE {x : UInt64} {c : Nat} (h : fpN x false c (-52)) : FP.Core.val64 (FP.dsub x FP.dconst1) = FP.Core.round FP.Core.b64 (.fin false (c - 2 ^ 52) (-52)) := by
  have h2 := h.2
  rw [FP.Core.val64_dsub, h.1, fp_one]
  show FP.Core.round FP.Core.b64 (.fin (FP.Core.sumSign false true (FP.Core.sumUnits false c (-52) true (2 ^ 52) (-52) (-52))) (FP.Core.sumUnits false c (-52) true (2 ^ 52) (-52) (-52)).natAbs (-52)) = _
  have e9 : FP.Core.sumUnits false c (-52) true (2 ^ 52) (-52) (-52) = ((c - 2 ^ 52 : Nat) : Int) := by
    unfold FP.Core.sumUnits FP.Core.inUnits
    rw [fp_sg, fp_st, show ((-52 : Int) - (-52)).toNat = 0 by decide]
    omega
  rw [e9, Int.natAbs_natCast]
  have e8 : FP.Core.sumSign false true ((c - 2 ^ 52 : Nat) : Int) = false := by
    unfold FP.Core.sumSign
    split
    · rfl
    · exact decide_eq_false (by omega)
  rw [e8]
theorem fp_fit9 {d e : FP.Core.Datum} (h : FP.Core.round FP.Core.b64 d = e) : FP.Core.fits FP.Core.b64 e := by
  subst h
  exact FP.Core.round_fits FP.Core.good_b64 d
theorem fp_fracW {x : UInt64} {c : Nat} (h : fpN x false c (-52)) : FP.Core.Whole ((c - 2 ^ 52 : Nat) : Int) (FP.Core.val64 (FP.dmul (FP.dsub x FP.dconst1) 4841369599423283200)) := by
  have h2 := h.2
  have e1 := fp_fracE h
  obtain ⟨c', q', r1, r2⟩ := FP.Core.round_exact FP.Core.good_b64 false (c := c - 2 ^ 52) (q := -52) (show c - 2 ^ 52 < 2 ^ 53 by omega) (by rw [fp_qmin]; decide) (by rw [fp_qmax]; decide)
  have hf : FP.Core.fits FP.Core.b64 (.fin false c' q') := fp_fit9 r1
  rw [r1] at e1
  have f2 := hf.2.1
  rw [fp_qmin] at f2
  unfold FP.Core.inUnits at r2
  rw [fp_qmin, show ((-52 : Int) - (-1074)).toNat = 1022 by decide] at r2
  rw [FP.Core.val64_dmul, e1, fp_big]
  refine FP.Core.whole_round FP.Core.good_b64 FP.Core.wide_b64 (show _ ≤ 2 ^ 53 by omega) ?_
  show FP.Core.signed false (c' * 2 ^ 52 * 2 ^ (q' + 0).toNat) = ((c - 2 ^ 52 : Nat) : Int) * ((2 ^ (-(q' + 0)).toNat : Nat) : Int)
  rw [fp_sg, ← Int.natCast_mul, Int.add_zero]
  refine congrArg (fun t : Nat => (t : Int)) ?_
  generalize c - 2 ^ 52 = n at r2 ⊢
  have e7 : (q' - (-1074)).toNat + (-q').toNat = 1074 + q'.toNat := by omega
  refine fp_alg (a := 2 ^ (q' - (-1074)).toNat) (b := 2 ^ 1022) (k := 2 ^ 1074) r2 ?_ (Nat.pow_add 2 1022 52).symm (Nat.two_pow_pos 1074)
  rw [← Nat.pow_add, e7, Nat.pow_add]
theorem fp_frac {x : UInt64} {c : Nat} (h : fpN x false c (-52)) : vf_n64 (FP.dsub x FP.dconst1) ∧ vf_n64 (FP.dmul (FP.dsub x FP.dconst1) 4841369599423283200) ∧ FP.d2l (FP.dmul (FP.dsub x FP.dconst1) 4841369599423283200) = lN (c - 2 ^ 52) := by
  have h2 := h.2
  refine ⟨fp_nn (by rw [fp_fracE h]; exact FP.Core.roundRatio_ne_nan _ _ _ _ _), fp_nn (fp_fracW h).ne_nan, ?_⟩
  refine FP.Core.d2l_int (a := lN (c - 2 ^ 52)) ?_
  show FP.Core.Whole (lN (c - 2 ^ 52)).toInt _
  rw [pk_lT (by omega)]
  exact fp_fracW h
/-! the bits -/
theorem fp_nat {x : UInt64} {s : Bool} {c : Nat} {q : Int} (h : fpN x s c q) (h1 : -1000 ≤ q) (h2 : q ≤ 900) : x.toNat = (s.toNat * 2048 + ((q + 1074).toNat + 1)) * 2 ^ 52 + (c - 2 ^ 52) := by
  have e : FP.Core.of64 (.fin s c q) = x := by rw [← h.1]; exact FP.Core.of64_val64 (by rw [h.1]; exact FP.Core.Datum.noConfusion)
  have k := FP.Core.toNat_of64 (fp_fits (s := s) h.2.1 h.2.2 h1 h2)
  rw [e] at k
  rw [k]
  show (if c < FP.Core.b64.tails then _ else _) = _
  rw [fp_tails, if_neg (by have := h.2.1; omega), fp_qmin]
  unfold FP.Core.assemble
  rw [fp_tails, show FP.Core.b64.exps = 2048 by decide, show q - -1074 = q + 1074 by omega]
theorem fp_nnq (a b : Int32) (hb : b.toInt ≠ 0) : FP.Core.val64 (FP.ddiv (FP.i2d a) (FP.i2d b)) ≠ .nan := by
  obtain ⟨B, r, h1, _⟩ := fp_i2d b hb
  have hI : FP.Core.Whole a.toInt (FP.Core.val64 (FP.i2d a)) := FP.Core.i2d_int a
  rw [FP.Core.val64_ddiv, h1.1]
  cases hv : FP.Core.val64 (FP.i2d a) with
  | nan => rw [hv] at hI; exact hI.elim
  | inf s => rw [hv] at hI; exact hI.elim
  | fin s c q =>
    show (if B = 0 then _ else FP.Core.roundRatio _ _ _ _ _) ≠ _
    rw [if_neg (by have := h1.2.1; omega)]
    exact FP.Core.roundRatio_ne_nan _ _ _ _ _
theorem fp_back (a b : Int32) (hb : 0 < b.toInt) : FP.ddiv (FP.i2d a) (FP.i2d b) = FP.dconst0 ∨ ∃ (s : Bool) (c : Nat) (q : Int), fpN (FP.ddiv (FP.i2d a) (FP.i2d b)) s c q ∧ -90 ≤ q ∧ q ≤ 0 := by
  obtain ⟨B, r, h1, h2⟩ := fp_i2d b (by omega)
  by_cases ha : a.toInt = 0
  · left
    have e0 : a = 0 := Int32.toInt_inj.mp ha
    subst e0
    refine FP.Core.val64_inj (fp_nnq _ _ (by omega)) ?_
    have ez : FP.Core.val64 (FP.i2d 0) = .fin false 0 (-1074) := by decide +kernel
    rw [FP.Core.val64_ddiv, h1.1, ez, fp_zero]
    show (if B = 0 then _ else FP.Core.roundRatio _ _ _ _ _) = _
    rw [if_neg (by have := h1.2.1; omega), show decide (b.toInt < 0) = false from decide_eq_false (by omega)]
    rfl
  · obtain ⟨A, q, h3, h4⟩ := fp_i2d a ha
    right
    exact fp_div h3 h1 h4 h2
/-! the long that has a double's bits -/
theorem fp_sh : ∀ E, E < 1100 → (nI E).toInt64 <<< ((nI 52).toInt64 &&& 63) = lN (E * 2 ^ 52) := by decide +kernel
theorem fp_lb {n : Nat} (h : n < 2 ^ 64) : (lN n).toBitVec.toNat = n := by
  show (BitVec.ofNat 64 n).toNat = n
  rw [BitVec.toNat_ofNat, Nat.mod_eq_of_lt h]
theorem fp_bf {x : UInt64} {c E : Nat} {q : Int} (h : fpN x false c q) (hq : -90 ≤ q ∧ q ≤ 0) (hE : (E : Int) = q + 1075) : ((nI E).toInt64 <<< ((nI 52).toInt64 &&& 63)) ||| lN (c - 2 ^ 52) = x.toInt64 := by
  have h2 := h.2
  have k := fp_nat h (by omega) (by omega)
  rw [fp_sh E (by omega)]
  apply Int64.toBitVec_inj.mp
  apply BitVec.eq_of_toNat_eq
  rw [Int64.toBitVec_or, BitVec.toNat_or, fp_lb (by omega), fp_lb (by omega), show x.toInt64.toBitVec.toNat = x.toNat from rfl, k, Nat.mul_comm E, ← Nat.two_pow_add_eq_or_of_lt (by omega)]
  rw [show (q + 1074).toNat + 1 = E by omega, show false.toNat = 0 from rfl]
  omega
theorem fp_bt {x : UInt64} {c E : Nat} {q : Int} (h : fpN x true c q) (hq : -90 ≤ q ∧ q ≤ 0) (hE : (E : Int) = q + 1075) : (((nI E).toInt64 <<< ((nI 52).toInt64 &&& 63)) ||| lN (c - 2 ^ 52)) ||| (-9223372036854775808) = x.toInt64 := by
  have h2 := h.2
  have k := fp_nat h (by omega) (by omega)
  rw [fp_sh E (by omega)]
  apply Int64.toBitVec_inj.mp
  apply BitVec.eq_of_toNat_eq
  rw [Int64.toBitVec_or, Int64.toBitVec_or, BitVec.toNat_or, BitVec.toNat_or, fp_lb (by omega), fp_lb (by omega), show x.toInt64.toBitVec.toNat = x.toNat from rfl, k, Nat.mul_comm E, ← Nat.two_pow_add_eq_or_of_lt (by omega), show (-9223372036854775808 : Int64).toBitVec.toNat = 2 ^ 63 * 1 by decide, Nat.or_comm, ← Nat.two_pow_add_eq_or_of_lt (by omega)]
  rw [show (q + 1074).toNat + 1 = E by omega, show true.toNat = 1 from rfl]
  omega
/-! costs of all units; the share -/
theorem coN_n {z : Nat → Int32} (h : iv z) : ∀ n, n ≤ cn z → ∃ k : Nat, coN z n = nI k ∧ n ≤ k ∧ k ≤ 9999 * n
  | 0, _ => ⟨0, rfl, Nat.le_refl _, Nat.le_refl _⟩
  | n + 1, hn => by
    obtain ⟨k, e, k1, k2⟩ := coN_n h n (by omega)
    obtain ⟨c, hc, hc1, hc2⟩ := rg_nI (h.2.2.2.1 (up z n) (iv_upl h (by omega))).1 (by decide)
    refine ⟨k + c, ?_, by omega, by omega⟩
    show coN z n + cst z n = _
    unfold cst
    rw [e, hc, nI_add]
theorem coN_0 {z : Nat → Int32} (h : iv z) : coN z (cn z) = 0 ∨ 0 < (coN z (cn z)).toInt := by
  obtain ⟨k, e, k1, k2⟩ := coN_n h (cn z) (Nat.le_refl _)
  have := iv_c h
  rw [e]
  by_cases c : k = 0
  · subst c; exact Or.inl nI_0
  · right
    rw [nI_toInt (by omega)]
    omega
noncomputable def bkD (z : Nat → Int32) : UInt64 := iF (coN z (cn z) = 0) FP.dconst0 (FP.ddiv (FP.i2d (z 2 + z 3 - z 4)) (FP.i2d (coN z (cn z))))
theorem bkD_nn {z : Nat → Int32} (h : iv z) : FP.Core.val64 (bkD z) ≠ .nan := by
  unfold bkD
  by_cases c : coN z (cn z) = 0
  · rw [iF_t c, fp_zero]; exact FP.Core.Datum.noConfusion
  · rw [iF_f c]
    rcases coN_0 h with k | k
    · exact absurd k c
    · exact fp_nnq _ _ (by omega)
theorem bkD_c {z : Nat → Int32} (h : iv z) : bkD z = FP.dconst0 ∨ ∃ (s : Bool) (c : Nat) (q : Int), fpN (bkD z) s c q ∧ -90 ≤ q ∧ q ≤ 0 := by
  unfold bkD
  by_cases c : coN z (cn z) = 0
  · rw [iF_t c]; exact Or.inl rfl
  · rw [iF_f c]
    rcases coN_0 h with k | k
    · exact absurd k c
    · exact fp_back _ _ k
/-! the digest -/
theorem inc_m1 (n : Nat) : nI (n + 1) + Int32.ofInt (-1) = nI n := by rw [show Int32.ofInt (-1) = -1 by decide]; exact pk_m1 n
def mx (h : Int64) (v : Int32) : Int64 := 31 * h + v.toInt64
def fl (f : Nat → Int32) (h : Int64) : Nat → Int64
  | 0 => h
  | n + 1 => mx (fl f h n) (f n)
noncomputable def muH (z : Nat → Int32) (u : Nat) (h : Int64) : Int64 := mx (mx (fl (rpV z u) (mx (mx (mx (mx (fl (unV z u) h 14) (wy1 z u)) (wy2 z u)) (wy3 z u)) (wy4 z u)) 3) (rt z u 5).1) (amT z u)
noncomputable def usH (z : Nat → Int32) (h : Int64) : Nat → Int64
  | 0 => h
  | n + 1 => muH z n (usH z h n)
noncomputable def gsV (z : Nat → Int32) (k : Nat) : Int32 := gdV z (k / 6) (k % 6)
noncomputable def vsV (z : Nat → Int32) (k : Nat) : Int32 := veV z (k / 10) (k % 10)
noncomputable def rwH (z : Nat → Int32) (h : Int64) : Int64 := fl (vsV z) (fl (gsV z) (usH z h (cn z)) 36) 40
def seV (z : Nat → Int32) (k : Nat) : Int32 := z (k + 7)
noncomputable def waV (z : Nat → Int32) (k : Nat) : Int32 := oI (wa z k).2
noncomputable def caV (z : Nat → Int32) (k : Nat) : Int32 := oI (ca z k).2
noncomputable def d1H (z : Nat → Int32) (sm : Int32) : Int64 := rwH z (fl (seV z) (fl (coV z sm) 2477 14) 5)
noncomputable def d2H (z : Nat → Int32) (sm : Int32) : Int64 := mx (mx (fl (caV z) (fl (waV z) (d1H z sm) 3) 3) (cloZ z).2) (wdV z)
noncomputable def d3H (z : Nat → Int32) (sm : Int32) : Int64 := 31 * d2H z sm + (bkD z).toInt64
noncomputable def dgH (z : Nat → Int32) (sm : Int32) (b : Nat → Int32) (n : Nat) : Int64 := fl b (mx (d3H z sm) (nI n)) n
