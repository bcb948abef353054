def bt (x : Int32) (i : Nat) : Bool := x.toBitVec.getLsbD i
theorem b_ext {x y : Int32} (h : ∀ i, i < 32 → bt x i = bt y i) : x = y := Int32.toBitVec_inj.mp (BitVec.eq_of_getLsbD_eq (fun i hi => h i hi))
theorem b_or (x y : Int32) (i : Nat) : bt (x ||| y) i = (bt x i || bt y i) := by unfold bt; rw [Int32.toBitVec_or, BitVec.getLsbD_or]
theorem b_and (x y : Int32) (i : Nat) : bt (x &&& y) i = (bt x i && bt y i) := by unfold bt; rw [Int32.toBitVec_and, BitVec.getLsbD_and]
theorem b_xor (x y : Int32) (i : Nat) : bt (x ^^^ y) i = (bt x i ^^ bt y i) := by unfold bt; rw [Int32.toBitVec_xor, BitVec.getLsbD_xor]
theorem b_big {x : Int32} {i : Nat} (h : 32 ≤ i) : bt x i = false := BitVec.getLsbD_of_ge _ _ h
theorem b_255 (i : Nat) : bt 255 i = decide (i < 8) := by
  rcases Nat.lt_or_ge i 32 with h | h
  · exact (by decide +kernel : ∀ i, i < 32 → bt 255 i = decide (i < 8)) i h
  · rw [b_big h, decide_eq_false (by omega)]
theorem b_65535 (i : Nat) : bt 65535 i = decide (i < 16) := by
  rcases Nat.lt_or_ge i 32 with h | h
  · exact (by decide +kernel : ∀ i, i < 32 → bt 65535 i = decide (i < 16)) i h
  · rw [b_big h, decide_eq_false (by omega)]
theorem b_m1 : ∀ i, i < 32 → bt (-1) i = true := by decide +kernel
theorem b_0 (i : Nat) : bt 0 i = false := BitVec.getLsbD_zero
theorem s_l : ∀ n, n < 32 → ((nI n &&& 31).toBitVec.smod 32).toNat = n := by decide +kernel
theorem s_u : ∀ n, n < 32 → (((nI n).toUInt32 &&& Int32.toUInt32 31).toBitVec % 32).toNat = n := by decide +kernel
theorem b_shl (n : Nat) (hn : n < 32) (x : Int32) {i : Nat} (hi : i < 32) : bt (x <<< (nI n &&& 31)) i = (decide (n ≤ i) && bt x (i - n)) := by
  unfold bt
  rw [Int32.toBitVec_shiftLeft]
  show (x.toBitVec <<< ((nI n &&& 31).toBitVec.smod 32).toNat).getLsbD i = _
  rw [s_l n hn, BitVec.getLsbD_shiftLeft]
  rcases Nat.lt_or_ge i n with h | h
  · simp [h, Nat.not_le.mpr h]
  · simp [hi, h, Nat.not_lt.mpr h]
theorem b_ushr (n : Nat) (hn : n < 32) (x : Int32) (i : Nat) : bt ((x.toUInt32 >>> ((nI n).toUInt32 &&& Int32.toUInt32 31)).toInt32) i = bt x (n + i) := by
  show (x.toUInt32 >>> ((nI n).toUInt32 &&& Int32.toUInt32 31)).toBitVec.getLsbD i = x.toUInt32.toBitVec.getLsbD (n + i)
  rw [UInt32.toBitVec_shiftRight]
  show (x.toUInt32.toBitVec >>> (((nI n).toUInt32 &&& Int32.toUInt32 31).toBitVec % 32).toNat).getLsbD i = _
  rw [s_u n hn, BitVec.getLsbD_ushiftRight]
theorem b_sshr (n : Nat) (hn : n < 32) (x : Int32) {i : Nat} (hi : i < 32) : bt (x >>> (nI n &&& 31)) i = if n + i < 32 then bt x (n + i) else bt x 31 := by
  unfold bt
  rw [Int32.toBitVec_shiftRight]
  show (x.toBitVec.sshiftRight ((nI n &&& 31).toBitVec.smod 32).toNat).getLsbD i = _
  rw [s_l n hn, BitVec.getLsbD_sshiftRight, BitVec.msb_eq_getLsbD_last]
  simp [hi]
theorem bt_1 : ∀ i, i < 32 → bt (nI 1) i = decide (i = 0) := by decide +kernel
theorem bit_bt {d : Int32} {u : Nat} (hu : u < 32) : bit d u = 0 ↔ bt d u = false := by
  unfold bit
  constructor
  · intro h
    have h1 : bt ((d >>> (nI u &&& 31)) &&& nI 1) 0 = bt 0 0 := by rw [h]
    rw [b_and, b_sshr u hu d (by omega), b_0, bt_1 0 (by omega), if_pos (by omega)] at h1
    simpa using h1
  · intro h
    refine b_ext fun i hi => ?_
    rw [b_and, b_0, bt_1 i hi]
    by_cases e : i = 0
    · subst e
      rw [b_sshr u hu d hi, if_pos (by omega)]
      simp [h]
    · simp [e]
theorem bt_or1 {d : Int32} {u j : Nat} (hu : u < 32) (hj : j < 32) : bt (d ||| (nI 1 <<< (nI j &&& 31))) u = (bt d u || decide (u = j)) := by
  rw [b_or, b_shl j hj (nI 1) hu]
  congr 1
  by_cases h : j ≤ u
  · rw [bt_1 (u - j) (by omega)]
    by_cases e : u = j
    · simp [e]
    · simp [h, e]
      omega
  · simp [h]
    omega
theorem bit_or1 {d : Int32} {u j : Nat} (hu : u < 32) (hj : j < 32) : bit (d ||| (nI 1 <<< (nI j &&& 31))) u = 0 ↔ bit d u = 0 ∧ u ≠ j := by
  rw [bit_bt hu, bit_bt hu, bt_or1 hu hj]
  simp
theorem bit_0 {u : Nat} (hu : u < 32) : bit (nI 0) u = 0 := (bit_bt hu).mpr (by rw [nI_0]; exact b_0 u)
/-! how many units have no mark yet -/
noncomputable def cntb (d : Int32) : Nat → Nat
  | 0 => 0
  | i + 1 => cntb d i + iF (bit d i = 0) 1 0
theorem cntb_le {d : Int32} : ∀ n, cntb d n ≤ n
  | 0 => Nat.le_refl 0
  | n + 1 => by
    have := cntb_le (d := d) n
    show cntb d n + iF (bit d n = 0) 1 0 ≤ n + 1
    by_cases h : bit d n = 0
    · rw [iF_t h]; omega
    · rw [iF_f h]; omega
theorem cntb_or {d : Int32} {j : Nat} (hj : j < 32) : ∀ n, n ≤ 32 → cntb (d ||| (nI 1 <<< (nI j &&& 31))) n ≤ cntb d n ∧ (bit d j = 0 → j < n → cntb (d ||| (nI 1 <<< (nI j &&& 31))) n + 1 ≤ cntb d n)
  | 0, _ => ⟨Nat.le_refl 0, fun _ h => absurd h (by omega)⟩
  | n + 1, hn => by
    obtain ⟨a, b⟩ := cntb_or (d := d) hj n (by omega)
    have e1 : cntb (d ||| (nI 1 <<< (nI j &&& 31))) (n + 1) = cntb (d ||| (nI 1 <<< (nI j &&& 31))) n + iF (bit (d ||| (nI 1 <<< (nI j &&& 31))) n = 0) 1 0 := rfl
    have e2 : cntb d (n + 1) = cntb d n + iF (bit d n = 0) 1 0 := rfl
    rw [e1, e2]
    have k := bit_or1 (d := d) (u := n) (j := j) (by omega) hj
    by_cases h : bit d n = 0
    · by_cases e : n = j
      · rw [iF_t h, iF_f (fun q => (k.mp q).2 e)]
        exact ⟨by omega, fun _ _ => by omega⟩
      · rw [iF_t h, iF_t (k.mpr ⟨h, e⟩)]
        exact ⟨by omega, fun q r => by have := b q (by omega); omega⟩
    · rw [iF_f h, iF_f (fun q => h (k.mp q).1)]
      refine ⟨by omega, fun q r => ?_⟩
      have : j ≠ n := fun z => h (z ▸ q)
      have := b q (by omega)
      omega
/-! repair, a day, days -/
theorem sc1 {z : Nat → Int32} {u t : Nat} (h : iv z) (hu : u < cn z) (ht : t < 4) : rg (scr z u t (nI 1)) 0 9 := by
  have a := h.2.2.2.2.2 u hu
  unfold iu at a
  have h9 : (z (13*u + t + 64)).toInt ≤ 9 := by
    rcases (by omega : t = 0 ∨ t = 1 ∨ t = 2 ∨ t = 3) with rfl | rfl | rfl | rfl
    · exact a.2.2.1.1.2
    · rw [show 13*u + 1 + 64 = 13*u + 65 by omega]; exact a.2.2.1.2.1.2
    · rw [show 13*u + 2 + 64 = 13*u + 66 by omega]; exact a.2.2.1.2.2.1.2
    · rw [show 13*u + 3 + 64 = 13*u + 67 by omega]; exact a.2.2.1.2.2.2.2
  unfold scr
  by_cases q : ¬ nI 1 = 0 ∧ z (13*u + t + 64) < nI 7
  · rw [iF_t q]; exact ⟨by decide, by decide⟩
  · rw [iF_f q]
    have h7 : ¬ z (13*u + t + 64) < nI 7 := fun r => q ⟨nI_ne10, r⟩
    have h8 := Int32.le_iff_toInt_le.mp (Int32.not_lt.mp h7)
    rw [nI_toInt (by decide)] at h8
    exact ⟨by omega, h9⟩
theorem sc_o {z : Nat → Int32} {u t pos : Nat} {k x : Int32} (h : 13*u + t + 64 ≠ pos) : scr (upd z pos x) u t k = scr z u t k := by
  unfold scr; rw [upd_n h]
noncomputable def sco (z : Nat → Int32) (u : Nat) : Nat → Int32 := upd (upd (upd (upd z (13*u + 64) (scr z u 0 (nI 1))) (13*u + 65) (scr z u 1 (nI 1))) (13*u + 66) (scr z u 2 (nI 1))) (13*u + 67) (scr z u 3 (nI 1))
noncomputable def rpc (z : Nat → Int32) (u : Nat) : Int32 := pts z u * z 11
noncomputable def rez (z : Nat → Int32) (u : Nat) : Nat → Int32 := upd (upd (upd (sco z u) (13*u + 74) (z (13*u + 74) + rpc z u)) (13*u + 68) (nI 0)) 4 (z 4 + rpc z u)
theorem iv_s0 {z : Nat → Int32} {u : Nat} (h : iv z) (hu : u < cn z) : iv (upd z (13*u + 64) (scr z u 0 (nI 1))) := iv_sc (t := 0) h (by omega) (sc1 h hu (by omega))
theorem iv_s1 {z : Nat → Int32} {u : Nat} (h : iv z) (hu : u < cn z) : iv (upd (upd z (13*u + 64) (scr z u 0 (nI 1))) (13*u + 65) (scr z u 1 (nI 1))) := by
  have a := iv_sc (u := u) (t := 1) (iv_s0 h hu) (by omega) (sc1 h hu (by omega : 1 < 4))
  rw [show 13*u + 1 + 64 = 13*u + 65 by omega] at a
  exact a
theorem iv_s2 {z : Nat → Int32} {u : Nat} (h : iv z) (hu : u < cn z) : iv (upd (upd (upd z (13*u + 64) (scr z u 0 (nI 1))) (13*u + 65) (scr z u 1 (nI 1))) (13*u + 66) (scr z u 2 (nI 1))) := by
  have a := iv_sc (u := u) (t := 2) (iv_s1 h hu) (by omega) (sc1 h hu (by omega : 2 < 4))
  rw [show 13*u + 2 + 64 = 13*u + 66 by omega] at a
  exact a
theorem iv_s3 {z : Nat → Int32} {u : Nat} (h : iv z) (hu : u < cn z) : iv (sco z u) := by
  have a := iv_sc (u := u) (t := 3) (iv_s2 h hu) (by omega) (sc1 h hu (by omega : 3 < 4))
  rw [show 13*u + 3 + 64 = 13*u + 67 by omega] at a
  exact a
theorem cn_sco {z : Nat → Int32} {u : Nat} : cn (sco z u) = cn z := by
  unfold sco
  rw [cn_u (by omega), cn_u (by omega), cn_u (by omega), cn_u (by omega)]
theorem iv_rez {z : Nat → Int32} {u : Nat} (h : iv z) (hu : u < cn z) : iv (rez z u) :=
  iv_fr (iv_u6 (iv_u0 (c := 74) (iv_s3 h hu) (Or.inr (Or.inr rfl))) ⟨by decide, by decide⟩ (fun q => by rw [nI_0] at q; exact absurd q.symm nI_ne10)) (by omega)
theorem cn_rez {z : Nat → Int32} {u : Nat} : cn (rez z u) = cn z := by
  unfold rez
  rw [cn_u (by omega), cn_u (by omega), cn_u (by omega), cn_sco]
theorem rez_lo {z : Nat → Int32} {u q : Nat} (h : q < 62) (h4 : q ≠ 4) : rez z u q = z q := by
  unfold rez sco
  rw [upd_n (by omega), upd_n (by omega), upd_n (by omega), upd_n (by omega), upd_n (by omega), upd_n (by omega), upd_n (by omega)]
noncomputable def dyI (z : Nat → Int32) : Nat → (Nat → Int32) × Int32
  | 0 => (z, nI 0)
  | k + 1 => match nw (dyI z k).1 (nI 0) (nI 0) (cn (dyI z k).1) with
    | none => dyI z k
    | some j => (rez (dyI z k).1 j, (dyI z k).2 + rpc (dyI z k).1 j)
theorem dyI_n {z : Nat → Int32} {k : Nat} (h : nw (dyI z k).1 (nI 0) (nI 0) (cn (dyI z k).1) = none) : dyI z (k + 1) = dyI z k := by
  show (match nw (dyI z k).1 (nI 0) (nI 0) (cn (dyI z k).1) with | none => dyI z k | some j => _) = _
  rw [h]
theorem dyI_s {z : Nat → Int32} {k j : Nat} (h : nw (dyI z k).1 (nI 0) (nI 0) (cn (dyI z k).1) = some j) : dyI z (k + 1) = (rez (dyI z k).1 j, (dyI z k).2 + rpc (dyI z k).1 j) := by
  show (match nw (dyI z k).1 (nI 0) (nI 0) (cn (dyI z k).1) with | none => dyI z k | some j => _) = _
  rw [h]
theorem dyI_stop {z : Nat → Int32} {k : Nat} (h : nw (dyI z k).1 (nI 0) (nI 0) (cn (dyI z k).1) = none) : ∀ n, dyI z (k + n) = dyI z k
  | 0 => rfl
  | n + 1 => by
    have e := dyI_stop h n
    have h2 : nw (dyI z (k + n)).1 (nI 0) (nI 0) (cn (dyI z (k + n)).1) = none := by rw [e]; exact h
    rw [show k + (n + 1) = (k + n) + 1 by omega, dyI_n h2, e]
theorem dyI_iv {z : Nat → Int32} (h : iv z) : ∀ k, iv (dyI z k).1 ∧ cn (dyI z k).1 = cn z ∧ ∀ q, q < 62 → q ≠ 4 → (dyI z k).1 q = z q
  | 0 => ⟨h, rfl, fun _ _ _ => rfl⟩
  | k + 1 => by
    obtain ⟨a, b, c⟩ := dyI_iv h k
    cases hb : nw (dyI z k).1 (nI 0) (nI 0) (cn (dyI z k).1) with
    | none => rw [dyI_n hb]; exact ⟨a, b, c⟩
    | some j =>
      rw [dyI_s hb]
      exact ⟨iv_rez a (nw_lt hb).1, by show cn (rez _ j) = _; rw [cn_rez]; exact b, fun q h1 h2 => by show rez _ j q = _; rw [rez_lo h1 h2]; exact c q h1 h2⟩
def dy0 (z : Nat → Int32) : Nat → Int32 := upd z 1 (z 1 + nI 1)
theorem iv_dy0 {z : Nat → Int32} (h : iv z) : iv (dy0 z) := iv_fr h (by omega)
theorem cn_dy0 {z : Nat → Int32} : cn (dy0 z) = cn z := cn_u (by omega)
noncomputable def dyZ (z : Nat → Int32) : (Nat → Int32) × Int32 := dyI (dy0 z) (pd z)
noncomputable def psI (z : Nat → Int32) : Nat → (Nat → Int32) × Int32
  | 0 => (z, nI 0)
  | k + 1 => ((dyZ (psI z k).1).1, (psI z k).2 + (dyZ (psI z k).1).2)
theorem dyZ_iv {z : Nat → Int32} (h : iv z) : iv (dyZ z).1 ∧ cn (dyZ z).1 = cn z := by
  have a := dyI_iv (iv_dy0 h) (pd z)
  exact ⟨a.1, a.2.1.trans cn_dy0⟩
theorem psI_iv {z : Nat → Int32} (h : iv z) : ∀ k, iv (psI z k).1 ∧ cn (psI z k).1 = cn z
  | 0 => ⟨h, rfl⟩
  | k + 1 => by
    have a := psI_iv h k
    have b := dyZ_iv a.1
    exact ⟨b.1, b.2.trans a.2⟩
/-! claims -/
def payP (z : Nat → Int32) (u : Nat) : Prop := ¬ z (8*ub z u + 30) < z (13*u + 70) + z (8*ub z u + 31)
noncomputable def payZ (z : Nat → Int32) (u : Nat) : Nat → Int32 := iF (payP z u) (upd (upd (upd (upd z (8*ub z u + 31) (z (8*ub z u + 31) + z (13*u + 70))) (8*ub z u + 32) (z (8*ub z u + 32) + z (13*u + 70))) 3 (z 3 + z (13*u + 70))) (13*u + 72) (nI 1)) z
theorem payZ_iv {z : Nat → Int32} {u : Nat} (h : iv z) (hu : u < cn z) : iv (payZ z u) ∧ cn (payZ z u) = cn z ∧ ∀ i, payZ z u (13*i + 70) = z (13*i + 70) := by
  have hb := iv_ubl h hu
  unfold payZ
  by_cases q : payP z u
  · rw [iF_t q]
    refine ⟨iv_u10 (iv_fr (iv_fr (iv_fr h (by omega)) (by omega)) (by omega)) ⟨by decide, by decide⟩, ?_, fun i => ?_⟩
    · rw [cn_u (by omega), cn_u (by omega), cn_u (by omega), cn_u (by omega)]
    · rw [upd_n (by omega), upd_n (by omega), upd_n (by omega), upd_n (by omega)]
  · rw [iF_f q]
    exact ⟨h, rfl, fun _ => rfl⟩
noncomputable def clo : Nat → (Nat → Int32) → Int32 → Int32 → (Nat → Int32) × Int32
  | 0, z, _, a => (z, a)
  | f + 1, z, d, a => match nc z d (cn z) with
    | none => (z, a)
    | some j => clo f (payZ z j) (d ||| (nI 1 <<< (nI j &&& 31))) (a + iF (payP z j) (z (13*j + 70)) (nI 0))
theorem clo_n {f : Nat} {z : Nat → Int32} {d a : Int32} (h : nc z d (cn z) = none) : clo f z d a = (z, a) := by
  cases f with
  | zero => rfl
  | succ f =>
    show (match nc z d (cn z) with | none => (z, a) | some j => _) = _
    rw [h]
theorem clo_s {f j : Nat} {z : Nat → Int32} {d a : Int32} (h : nc z d (cn z) = some j) : clo (f + 1) z d a = clo f (payZ z j) (d ||| (nI 1 <<< (nI j &&& 31))) (a + iF (payP z j) (z (13*j + 70)) (nI 0)) := by
  show (match nc z d (cn z) with | none => (z, a) | some j => _) = _
  rw [h]
def clz (z : Nat → Int32) : Nat → Int32 := upd (upd (upd (upd (upd z 31 (nI 0)) 39 (nI 0)) 47 (nI 0)) 55 (nI 0)) 5 (z 5 + nI 1)
theorem iv_clz {z : Nat → Int32} (h : iv z) : iv (clz z) := iv_fr (iv_fr (iv_fr (iv_fr (iv_fr h (by omega)) (by omega)) (by omega)) (by omega)) (by omega)
theorem cn_clz {z : Nat → Int32} : cn (clz z) = cn z := by
  unfold clz
  rw [cn_u (by omega), cn_u (by omega), cn_u (by omega), cn_u (by omega), cn_u (by omega)]
noncomputable def cloZ (z : Nat → Int32) : (Nat → Int32) × Int32 := clo 20 (clz z) (nI 0) (nI 0)
theorem clo_iv : ∀ (f : Nat) {z : Nat → Int32} {d a : Int32}, iv z → iv (clo f z d a).1 ∧ cn (clo f z d a).1 = cn z
  | 0, _, _, _, h => ⟨h, rfl⟩
  | f + 1, z, d, a, h => by
    cases hb : nc z d (cn z) with
    | none => rw [clo_n hb]; exact ⟨h, rfl⟩
    | some j =>
      rw [clo_s hb]
      have k := payZ_iv h (nc_lt hb).1
      have r := clo_iv f (d := d ||| (nI 1 <<< (nI j &&& 31))) (a := a + iF (payP z j) (z (13*j + 70)) (nI 0)) k.1
      exact ⟨r.1, r.2.trans k.2.1⟩
theorem cloZ_iv {z : Nat → Int32} (h : iv z) : iv (cloZ z).1 ∧ cn (cloZ z).1 = cn z := by
  have a := clo_iv 20 (d := nI 0) (a := nI 0) (iv_clz h)
  exact ⟨a.1, a.2.trans cn_clz⟩
/-! a unit comes -/
def clr (z : Nat → Int32) (k : Nat) : Nat → Int32 := fun j => if 13*cn z + 62 ≤ j ∧ j < 13*cn z + k + 62 then nI 0 else z j
theorem clr_0 {z : Nat → Int32} : clr z 0 = z := by
  funext j
  unfold clr
  rw [if_neg (by omega)]
theorem clr_s {z : Nat → Int32} {k : Nat} : clr z (k + 1) = upd (clr z k) (13*cn z + k + 62) (nI 0) := by
  funext j
  unfold clr upd
  by_cases h : j = 13*cn z + k + 62
  · rw [if_pos h, if_pos (by omega)]
  · rw [if_neg h]
    dsimp only
    by_cases h2 : 13*cn z + 62 ≤ j ∧ j < 13*cn z + k + 62
    · rw [if_pos h2, if_pos (by omega)]
    · rw [if_neg h2, if_neg (by omega)]
theorem clr_n {z : Nat → Int32} {k j : Nat} (h : j < 13*cn z + 62) : clr z k j = z j := by
  unfold clr
  rw [if_neg (by omega)]
def rcv (z : Nat → Int32) (q r : Nat) : Nat → Int32 := upd (upd (upd (upd (upd (upd (upd (upd (clr z 13) (13*cn z + 62) (nI q)) (13*cn z + 63) (nI r)) (13*cn z + 64) (-1)) (13*cn z + 65) (-1)) (13*cn z + 66) (-1)) (13*cn z + 67) (-1)) (13*cn z + 70) (-1)) 0 (nI (cn z + 1))
theorem md_z {E : ke_E} {o : Nat} {z z' : Nat → Int32} {w : md_w} {H : Heap} (h : md E o z w H) (e : ∀ j, j < 322 → z' j = z j) : md E o z' w H := by
  obtain ⟨h0, h1, h2⟩ := h
  refine ⟨h0, ?_, h2⟩
  show H[o + 1]? = _
  refine h1.trans (congrArg some ?_)
  exact dp_arr e
