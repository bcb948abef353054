/-! ===== arguments in range; the public changes ===== -/
def inR (x : Int32) (n : Nat) : Prop := ∃ j : Nat, j < n ∧ x = nI j
theorem in_n {a j b : Nat} (h1 : a ≤ j) (h2 : j ≤ b) (hb : b < 2 ^ 31) : nI a ≤ nI j ∧ nI j ≤ nI b := ⟨nI_le h1 (by omega), nI_le h2 hb⟩
theorem inR_of {x : Int32} {b : Nat} (hb : b < 2 ^ 31 - 1) (h : nI 0 ≤ x ∧ x ≤ nI b) : inR x (b + 1) := by
  have h1 := Int32.le_iff_toInt_le.mp h.1
  have h2 := Int32.le_iff_toInt_le.mp h.2
  rw [nI_toInt (by omega)] at h1 h2
  have h3 : x.toNatClampNeg = x.toInt.toNat := rfl
  refine ⟨x.toNatClampNeg, by rw [h3]; omega, ?_⟩
  apply Int32.toInt_inj.mp
  rw [nI_toInt (by rw [h3]; omega), h3]
  omega
theorem inR_iff {x : Int32} {b : Nat} (hb : b < 2 ^ 31 - 1) : (nI 0 ≤ x ∧ x ≤ nI b) ↔ inR x (b + 1) :=
  ⟨inR_of hb, fun ⟨j, h1, h2⟩ => by rw [h2]; exact in_n (Nat.zero_le j) (by omega) (by omega)⟩
theorem isU {c u : Nat} (hu : u < c) (hc : c < 2 ^ 30) : nI 0 ≤ nI u ∧ nI u ≤ nI c - nI 1 := by
  rw [pk_sub (by omega)]
  exact in_n (Nat.zero_le u) (by omega) (by omega)
theorem isU_iff {x : Int32} {c : Nat} (hc : c < 2 ^ 30) : (nI 0 ≤ x ∧ x ≤ nI c - nI 1) ↔ inR x c := by
  by_cases h0 : c = 0
  · subst h0
    have e : nI 0 - nI 1 = -1 := by decide
    rw [e]
    constructor
    · intro h
      have h1 := Int32.le_iff_toInt_le.mp h.1
      have h2 := Int32.le_iff_toInt_le.mp h.2
      rw [nI_toInt (by omega)] at h1
      have b : (-1 : Int32).toInt = -1 := by decide
      rw [b] at h2
      omega
    · intro ⟨j, h1, _⟩
      exact absurd h1 (by omega)
  · rw [pk_sub (by omega)]
    have k := inR_iff (x := x) (b := c - 1) (by omega)
    rw [show c - 1 + 1 = c by omega] at k
    exact k
theorem gr_n (z : Nat → Int32) (u : Nat) (k : Int32) : ∃ g : Nat, g ≤ 3 ∧ gr z u k = nI g := by
  have hs : ∀ x, ∃ g : Nat, g ≤ 3 ∧ gsm z x = nI g := by
    intro x
    unfold gsm
    by_cases a : x < z 7
    · rw [iF_t a]
      by_cases b : x < z 8
      · rw [iF_t b]
        by_cases c : x < z 9
        · rw [iF_t c]; exact ⟨3, by omega, rfl⟩
        · rw [iF_f c]; exact ⟨2, by omega, rfl⟩
      · rw [iF_f b]; exact ⟨1, by omega, rfl⟩
    · rw [iF_f a]; exact ⟨0, by omega, rfl⟩
  unfold gr
  by_cases a : zer z u k ∧ ¬ nI 2 ≤ gsm z (smm z u k)
  · rw [iF_t a]; exact ⟨2, by omega, rfl⟩
  · rw [iF_f a]; exact hs _
theorem rg_nI {x : Int32} {lo hi : Int} (h : rg x lo hi) (h0 : 0 ≤ lo) : ∃ j : Nat, x = nI j ∧ lo ≤ j ∧ (j : Int) ≤ hi := by
  have k := rg_n h h0
  refine ⟨x.toNatClampNeg, k.1, ?_, ?_⟩
  · rw [k.2]; exact h.1
  · rw [k.2]; exact h.2
theorem amt_n {z : Nat → Int32} {u : Nat} (h : iv z) (hu : u < cn z) : ∃ a : Nat, a ≤ 9999 ∧ amt z u = nI a := by
  obtain ⟨c, hc, hc1, hc2⟩ := rg_nI (h.2.2.2.1 (up z u) (iv_upl h hu)).1 (by decide)
  have hp := h.2.2.2.2.1 (pv z (up z u)) (ur z u) (iv_pvl h (iv_upl h hu)) (iv_url h hu)
  obtain ⟨q, hq, hq1, hq2⟩ := rg_nI hp (by decide)
  obtain ⟨g, hg, hg1⟩ := gr_n z u (nI 0)
  have hcc : c ≤ 9999 := by omega
  have hqq : q ≤ 100 := by omega
  have m1 : c * q ≤ 9999 * 100 := Nat.mul_le_mul hcc hqq
  have d1 : c * q / 100 ≤ 9999 := by omega
  have m2 : c * q / 100 * g ≤ 9999 * 3 := Nat.mul_le_mul d1 hg
  refine ⟨c * q / 100 * g / 3, by omega, ?_⟩
  unfold amt cst
  rw [hc, hq, hg1, pk_mul, pk_div (by omega) (by omega) (by omega), pk_mul, pk_div (by omega) (by omega) (by omega)]
theorem nI_rg {j : Nat} {lo hi : Int} (h1 : lo ≤ j) (h2 : (j : Int) ≤ hi) (h3 : j < 2 ^ 31) : rg (nI j) lo hi := ⟨by rw [nI_toInt h3]; exact h1, by rw [nI_toInt h3]; exact h2⟩
theorem amt_rg {z : Nat → Int32} {u : Nat} (h : iv z) (hu : u < cn z) : rg (amt z u) (-1) 9999 := by
  obtain ⟨a, h1, h2⟩ := amt_n h hu
  rw [h2]
  exact nI_rg (by omega) (by omega) (by omega)
theorem pvu {z z' : Nat → Int32} {u : Nat} (h1 : z' (13*u + 62) = z (13*u + 62)) (h2 : ∀ i, i < 6 → z' (3*i + 13) = z (3*i + 13)) (h : iv z) (hu : u < cn z) : pv z' (up z' u) = pv z (up z u) := by
  have e : up z' u = up z u := by unfold up; rw [h1]
  rw [e]
  unfold pv
  rw [h2 _ (iv_upl h hu)]
/-! the changes by name -/
def pdZ (z : Nat → Int32) (q : Nat) (y : Int32) (v : Nat) : Nat → Int32 := upd (upd z (3*q + 12) y) (3*q + 13) (nI v)
def rcZ (z : Nat → Int32) (q b : Nat) : Nat → Int32 := upd z (3*q + 14) (nI b)
def agZ (z : Nat → Int32) (v r : Nat) (y : Int32) : Nat → Int32 := upd z (8*v + r + 34) y
def liZ (z : Nat → Int32) (v : Nat) (y : Int32) : Nat → Int32 := upd z (8*v + 30) y
def seZ (z : Nat → Int32) (k : Nat) (y : Int32) : Nat → Int32 := upd z (k + 7) y
def teZ (z : Nat → Int32) (u t : Nat) (y : Int32) : Nat → Int32 := upd z (13*u + t + 64) y
def x_1 (r : Nat) : Int32 := match r with
  | 1 => nI 1
  | _ => nI 0
def x_2 (r : Nat) (m : Int32) : Int32 := match r with
  | 2 => m
  | _ => nI 0
def x_4 (r : Nat) (m : Int32) : Int32 := match r with
  | 4 => m
  | _ => nI 0
noncomputable def sn5 (z : Nat → Int32) (u r : Nat) : Nat → Int32 := upd (upd (upd (upd (upd z (13*u + 68) (nI r)) (13*u + 69) (z (13*u + 69) + x_1 r)) (13*u + 73) (brg z u r)) 2 (z 2 + x_2 r (brg z u r))) 3 (z 3 + x_4 r (brg z u r))
noncomputable def sdZ (z : Nat → Int32) (u r : Nat) : Nat → Int32 := upd (sn5 z u r) (8*pv z (up z u) + 33) (z (8*pv z (up z u) + 33) + x_4 r (brg z u r))
noncomputable def cm3 (z : Nat → Int32) (u : Nat) : Nat → Int32 := upd (upd (upd z (13*u + 70) (amt z u)) (13*u + 71) (nI (pv z (up z u)))) 6 (z 6 + nI 1)
noncomputable def cmZ (z : Nat → Int32) (u : Nat) : Nat → Int32 := payZ (cm3 z u) u
def clOK (z : Nat → Int32) (u : Nat) : Prop := z (13*u + 68) ≤ nI 1 ∧ tst z u ∧ z (13*u + 70) = -1
theorem iv_pd9 {z : Nat → Int32} {q v : Nat} {y : Int32} (h : iv z) (hq : q < 6) (hv : v < 4) (hy : nI 1 ≤ y ∧ y ≤ nI 9999) : iv (pdZ z q y v) := by
  have hy9 : rg y 1 9999 := rg_of hy (nI_toInt (by decide)) (nI_toInt (by decide))
  have a : iv (upd z (3*q + 12) y) := iv_up1 h (by omega) (fun r => absurd r (by omega)) (fun r => absurd r (by omega)) (fun i hi => ⟨fun _ => hy9, fun r => absurd r (by omega), fun r => absurd r (by omega)⟩) (fun v r hv hr q => absurd q (by omega)) (fun u hu => iu_o (h.2.2.2.2.2 u hu) (by omega))
  exact iv_up1 a (by omega) (fun r => absurd r (by omega)) (fun r => absurd r (by omega)) (fun i hi => ⟨fun r => absurd r (by omega), fun _ => nI_rg (by omega) (by omega) (by omega), fun r => absurd r (by omega)⟩) (fun v r hv hr q => absurd q (by omega)) (fun u hu => iu_o (a.2.2.2.2.2 u hu) (by omega))
theorem iv_rc9 {z : Nat → Int32} {q b : Nat} (h : iv z) (hq : q < 6) (hb : b < 2) : iv (rcZ z q b) :=
  iv_up1 h (by omega) (fun r => absurd r (by omega)) (fun r => absurd r (by omega)) (fun i hi => ⟨fun r => absurd r (by omega), fun r => absurd r (by omega), fun _ => nI_rg (by omega) (by omega) (by omega)⟩) (fun v r hv hr q => absurd q (by omega)) (fun u hu => iu_o (h.2.2.2.2.2 u hu) (by omega))
theorem iv_ag9 {z : Nat → Int32} {v r : Nat} {y : Int32} (h : iv z) (hv : v < 4) (hr : r < 4) (hy : nI 0 ≤ y ∧ y ≤ nI 100) : iv (agZ z v r y) :=
  iv_up1 h (by omega) (fun r => absurd r (by omega)) (fun r => absurd r (by omega)) (fun i hi => ⟨fun r => absurd r (by omega), fun r => absurd r (by omega), fun r => absurd r (by omega)⟩) (fun v r hv hr q => rg_of hy (nI_toInt (by decide)) (nI_toInt (by decide))) (fun u hu => iu_o (h.2.2.2.2.2 u hu) (by omega))
theorem iv_li9 {z : Nat → Int32} {v : Nat} {y : Int32} (h : iv z) (hv : v < 4) : iv (liZ z v y) := iv_fr h (by omega)
theorem iv_se9 {z : Nat → Int32} {k : Nat} {y : Int32} (h : iv z) (hk : k < 5) (hy : ms k y) : iv (seZ z k y) :=
  iv_up1 h (by omega) (fun q => rg_of (hy.2.1 (by omega)) (nI_toInt (by decide)) (nI_toInt (by decide))) (fun q => rg_of (hy.2.2 (by omega)) (nI_toInt (by decide)) (nI_toInt (by decide))) (fun i hi => ⟨fun r => absurd r (by omega), fun r => absurd r (by omega), fun r => absurd r (by omega)⟩) (fun v r hv hr q => absurd q (by omega)) (fun u hu => iu_o (h.2.2.2.2.2 u hu) (by omega))
theorem iv_te9 {z : Nat → Int32} {u t : Nat} {y : Int32} (h : iv z) (ht : t < 4) (hy : nI 0 ≤ y ∧ y ≤ nI 9) : iv (teZ z u t y) := iv_sc h ht (rg_of hy (nI_toInt (by decide)) (nI_toInt (by decide)))
theorem iv_sn5 {z : Nat → Int32} {u r : Nat} (h : iv z) (hr : r < 5) (ht : r = 1 → tst z u) : iv (sn5 z u r) := by
  refine iv_fr (iv_fr (iv_u0 (c := 73) (iv_u0 (c := 69) (iv_u6 h (nI_rg (by omega) (by omega) (by omega)) fun q => ht ?_) (Or.inl rfl)) (Or.inr (Or.inl rfl))) (by omega)) (by omega)
  exact (nI_eq (by omega) (by omega)).mp q
theorem cn_sn5 {z : Nat → Int32} {u r : Nat} : cn (sn5 z u r) = cn z := by
  unfold sn5
  rw [cn_u (by omega), cn_u (by omega), cn_u (by omega), cn_u (by omega), cn_u (by omega)]
theorem pv_sn5 {z : Nat → Int32} {u r : Nat} (h : iv z) (hu : u < cn z) : pv (sn5 z u r) (up (sn5 z u r) u) = pv z (up z u) := by
  refine pvu ?_ (fun i hi => ?_) h hu
  · unfold sn5
    rw [upd_n (by omega), upd_n (by omega), upd_n (by omega), upd_n (by omega), upd_n (by omega)]
  · unfold sn5
    rw [upd_n (by omega), upd_n (by omega), upd_n (by omega), upd_n (by omega), upd_n (by omega)]
theorem iv_sdZ {z : Nat → Int32} {u r : Nat} (h : iv z) (hu : u < cn z) (hr : r < 5) (ht : r = 1 → tst z u) : iv (sdZ z u r) := by
  have := iv_pvl h (iv_upl h hu)
  exact iv_fr (iv_sn5 h hr ht) (by omega)
theorem iv_cm1 {z : Nat → Int32} {u : Nat} (h : iv z) (hu : u < cn z) : iv (upd z (13*u + 70) (amt z u)) := iv_u8 h (amt_rg h hu)
theorem pv_cm1 {z : Nat → Int32} {u : Nat} {x : Int32} (h : iv z) (hu : u < cn z) : pv (upd z (13*u + 70) x) (up (upd z (13*u + 70) x) u) = pv z (up z u) :=
  pvu (by rw [upd_n (by omega)]) (fun i hi => by rw [upd_n (by omega)]) h hu
theorem iv_cm3 {z : Nat → Int32} {u : Nat} (h : iv z) (hu : u < cn z) : iv (cm3 z u) := by
  have := iv_pvl h (iv_upl h hu)
  exact iv_fr (iv_u9 (iv_cm1 h hu) (nI_rg (by omega) (by omega) (by omega))) (by omega)
theorem cn_cm3 {z : Nat → Int32} {u : Nat} : cn (cm3 z u) = cn z := by
  unfold cm3
  rw [cn_u (by omega), cn_u (by omega), cn_u (by omega)]
theorem iv_cmZ {z : Nat → Int32} {u : Nat} (h : iv z) (hu : u < cn z) : iv (cmZ z u) := (payZ_iv (iv_cm3 h hu) (by rw [cn_cm3]; exact hu)).1
def unZ (z rows : Nat → Int32) (n : Nat) : Nat → Int32 := asI z (fun j => rows (322*n + j)) 322
theorem pvn_sn5 {z : Nat → Int32} {u r : Nat} (h : iv z) (hu : u < cn z) : nI (pv (sn5 z u r) (up (sn5 z u r) u)) = nI (pv z (up z u)) := congrArg nI (pv_sn5 h hu)
theorem wy1_t {z : Nat → Int32} {u : Nat} (h : wy1 z u = 0) : tst z u := by
  apply Classical.byContradiction
  intro q
  unfold wy1 at h
  have n1 : ¬ nI 1 = 0 := by decide
  have n2 : ¬ nI 2 = 0 := by decide
  have n3 : ¬ nI 3 = 0 := by decide
  by_cases a : ¬ z (13*u + 68) = 0
  · rw [iF_t a] at h; exact n1 h
  · rw [iF_f a] at h
    by_cases b : hld z u
    · rw [iF_t b] at h; exact n2 h
    · rw [iF_f b, iF_t q] at h; exact n3 h
