/-! ===== what changes: rows copied, units, claims, days; the numbers stay in range ===== -/
def shI (f : Nat → Int32) (k : Nat) : Nat → Int32 := fun j => if j < k then f (j + 322) else f j
theorem shI_0 {f : Nat → Int32} : shI f 0 = f := by funext j; simp [shI]
theorem shI_s {f : Nat → Int32} {k : Nat} : shI f (k + 1) = upd (shI f k) k (shI f k (k + 322)) := by
  funext j
  unfold shI upd
  rw [if_neg (show ¬ (k + 322 < k) by omega)]
  by_cases h : j = k
  · rw [if_pos h, if_pos (by omega), h]
  · rw [if_neg h]
    dsimp only
    by_cases h2 : j < k
    · rw [if_pos h2, if_pos (by omega)]
    · rw [if_neg h2, if_neg (by omega)]
def puI (f z : Nat → Int32) (b k : Nat) : Nat → Int32 := fun j => if 322*b ≤ j ∧ j < 322*b + k then z (j - 322*b) else f j
theorem puI_0 {f z : Nat → Int32} {b : Nat} : puI f z b 0 = f := by
  funext j
  unfold puI
  rw [if_neg (by omega)]
theorem puI_s {f z : Nat → Int32} {b k : Nat} : puI f z b (k + 1) = upd (puI f z b k) (322*b + k) (z k) := by
  funext j
  unfold puI upd
  by_cases h : j = 322*b + k
  · rw [if_pos h, if_pos (by omega), show j - 322*b = k by omega]
  · rw [if_neg h]
    dsimp only
    by_cases h2 : 322*b ≤ j ∧ j < 322*b + k
    · rw [if_pos h2, if_pos (by omega)]
    · rw [if_neg h2, if_neg (by omega)]
def asI (f z : Nat → Int32) (k : Nat) : Nat → Int32 := fun j => if j < k then z j else f j
theorem asI_0 {f z : Nat → Int32} : asI f z 0 = f := by funext j; simp [asI]
theorem asI_s {f z : Nat → Int32} {k : Nat} : asI f z (k + 1) = upd (asI f z k) k (z k) := by
  funext j
  unfold asI upd
  by_cases h : j = k
  · rw [if_pos h, if_pos (by omega), h]
  · rw [if_neg h]
    dsimp only
    by_cases h2 : j < k
    · rw [if_pos h2, if_pos (by omega)]
    · rw [if_neg h2, if_neg (by omega)]
noncomputable def svR (f z : Nat → Int32) (n : Nat) : Nat → Int32 := iF (n = 6) (puI (shI f 1610) z 5 322) (puI f z n 322)
noncomputable def svN (n : Nat) : Nat := iF (n = 6) 6 (n + 1)
noncomputable def svW (z : Nat → Int32) (w : md_w) (n : Nat) : md_w := w_sm (w_rows w (svR (q_rows w) z n)) (nI (svN n))
theorem svW_6 {z : Nat → Int32} {w : md_w} {n : Nat} (h : n = 6) : svW z w n = w_sm (w_rows w (puI (shI (q_rows w) 1610) z 5 322)) (nI 6) := by
  unfold svW svR svN; rw [iF_t h, iF_t h]
theorem svW_n {z : Nat → Int32} {w : md_w} {n : Nat} (h : ¬ n = 6) : svW z w n = w_sm (w_rows w (puI (q_rows w) z n 322)) (nI (n + 1)) := by
  unfold svW svR svN; rw [iF_f h, iF_f h]
/-! ranges kept -/
theorem cn_u {z : Nat → Int32} {pos : Nat} {x : Int32} (h : pos ≠ 0) : cn (upd z pos x) = cn z := by unfold cn; rw [upd_n (Ne.symm h)]
theorem iu_o {z : Nat → Int32} {pos u : Nat} {x : Int32} (h : iu z u) (hp : pos < 13*u + 62 ∨ 13*u + 75 ≤ pos) : iu (upd z pos x) u := by
  unfold iu at h ⊢
  rw [upd_n (show 13*u + 62 ≠ pos by omega), upd_n (show 13*u + 63 ≠ pos by omega), upd_n (show 13*u + 64 ≠ pos by omega), upd_n (show 13*u + 65 ≠ pos by omega), upd_n (show 13*u + 66 ≠ pos by omega), upd_n (show 13*u + 67 ≠ pos by omega), upd_n (show 13*u + 68 ≠ pos by omega), upd_n (show 13*u + 70 ≠ pos by omega), upd_n (show 13*u + 71 ≠ pos by omega), upd_n (show 13*u + 72 ≠ pos by omega)]
  exact h
theorem iv_up1 {z : Nat → Int32} {pos : Nat} {x : Int32} (h : iv z) (h0 : pos ≠ 0) (h10 : pos = 10 → rg x 1 5) (h11 : pos = 11 → rg x 0 20) (hp : ∀ i, i < 6 → (pos = 3*i + 12 → rg x 1 9999) ∧ (pos = 3*i + 13 → rg x 0 3) ∧ (pos = 3*i + 14 → rg x 0 1)) (hv : ∀ v r, v < 4 → r < 4 → pos = 8*v + r + 34 → rg x 0 100) (hu : ∀ u, u < cn z → iu (upd z pos x) u) : iv (upd z pos x) := by
  obtain ⟨a, b, c, d, e, f⟩ := h
  have g : ∀ (q : Nat) (lo hi : Int), (pos = q → rg x lo hi) → rg (z q) lo hi → rg (upd z pos x q) lo hi := by
    intro q lo hi h1 h2
    by_cases hq : q = pos
    · subst hq
      rw [upd_s]
      exact h1 rfl
    · rw [upd_n hq]
      exact h2
  refine ⟨by rw [upd_n (Ne.symm h0)]; exact a, g 10 1 5 h10 b, g 11 0 20 h11 c, fun i hi => ⟨g _ _ _ (hp i hi).1 (d i hi).1, g _ _ _ (hp i hi).2.1 (d i hi).2.1, g _ _ _ (hp i hi).2.2 (d i hi).2.2⟩, fun v r hv9 hr => g _ _ _ (hv v r hv9 hr) (e v r hv9 hr), fun u hu9 => hu u (by rw [cn_u h0] at hu9; exact hu9)⟩
/-- a number that no range speaks of, below the units -/
theorem iv_fr {z : Nat → Int32} {pos : Nat} {x : Int32} (h : iv z) (hp : (1 ≤ pos ∧ pos ≤ 9) ∨ (30 ≤ pos ∧ pos < 34) ∨ (38 ≤ pos ∧ pos < 42) ∨ (46 ≤ pos ∧ pos < 50) ∨ (54 ≤ pos ∧ pos < 58)) : iv (upd z pos x) :=
  iv_up1 h (by omega) (fun q => absurd q (by omega)) (fun q => absurd q (by omega)) (fun i hi => ⟨fun q => absurd q (by omega), fun q => absurd q (by omega), fun q => absurd q (by omega)⟩) (fun v r hv hr q => absurd q (by omega)) (fun u hu => iu_o (h.2.2.2.2.2 u hu) (by omega))
/-- a number of a unit -/
theorem iv_un {z : Nat → Int32} {u pos : Nat} {x : Int32} (h : iv z) (hp : 13*u + 62 ≤ pos ∧ pos < 13*u + 75) (hi : u < cn z → iu (upd z pos x) u) : iv (upd z pos x) := by
  refine iv_up1 h (by omega) (fun q => absurd q (by omega)) (fun q => absurd q (by omega)) (fun i hi => ⟨fun q => absurd q (by omega), fun q => absurd q (by omega), fun q => absurd q (by omega)⟩) (fun v r hv hr q => absurd q (by omega)) (fun v hv => ?_)
  by_cases e : v = u
  · subst e
    exact hi hv
  · exact iu_o (h.2.2.2.2.2 v hv) (by omega)
theorem iv_u0 {z : Nat → Int32} {u c : Nat} {x : Int32} (h : iv z) (hc : c = 69 ∨ c = 73 ∨ c = 74) : iv (upd z (13*u + c) x) := by
  refine iv_un (u := u) h (by omega) (fun hu => ?_)
  have a := h.2.2.2.2.2 u hu
  unfold iu at a ⊢
  rw [upd_n (show 13*u + 62 ≠ 13*u + c by omega), upd_n (show 13*u + 63 ≠ 13*u + c by omega), upd_n (show 13*u + 64 ≠ 13*u + c by omega), upd_n (show 13*u + 65 ≠ 13*u + c by omega), upd_n (show 13*u + 66 ≠ 13*u + c by omega), upd_n (show 13*u + 67 ≠ 13*u + c by omega), upd_n (show 13*u + 68 ≠ 13*u + c by omega), upd_n (show 13*u + 70 ≠ 13*u + c by omega), upd_n (show 13*u + 71 ≠ 13*u + c by omega), upd_n (show 13*u + 72 ≠ 13*u + c by omega)]
  exact a
/-- the place: anywhere, if tested; else not the workshop -/
theorem iv_u6 {z : Nat → Int32} {u : Nat} {x : Int32} (h : iv z) (hx : rg x 0 4) (ht : x = nI 1 → tst z u) : iv (upd z (13*u + 68) x) := by
  refine iv_un (u := u) h (by omega) (fun hu => ?_)
  have a := h.2.2.2.2.2 u hu
  unfold iu at a ⊢
  rw [upd_n (show 13*u + 62 ≠ 13*u + 68 by omega), upd_n (show 13*u + 63 ≠ 13*u + 68 by omega), upd_n (show 13*u + 64 ≠ 13*u + 68 by omega), upd_n (show 13*u + 65 ≠ 13*u + 68 by omega), upd_n (show 13*u + 66 ≠ 13*u + 68 by omega), upd_n (show 13*u + 67 ≠ 13*u + 68 by omega), upd_s, upd_n (show 13*u + 70 ≠ 13*u + 68 by omega), upd_n (show 13*u + 71 ≠ 13*u + 68 by omega), upd_n (show 13*u + 72 ≠ 13*u + 68 by omega)]
  refine ⟨a.1, a.2.1, a.2.2.1, hx, a.2.2.2.2.1, a.2.2.2.2.2.1, a.2.2.2.2.2.2.1, fun q => ?_⟩
  have b := ht q
  unfold tst at b
  have k : ∀ y : Int32, 0 ≤ y → 0 ≤ y.toInt := fun y hy => by have := Int32.le_iff_toInt_le.mp hy; simpa using this
  exact ⟨k _ b.1, k _ b.2.1, k _ b.2.2.1, k _ b.2.2.2⟩
theorem rg_of {x : Int32} {lo hi : Int} {a b : Int32} (h : a ≤ x ∧ x ≤ b) (ha : a.toInt = lo) (hb : b.toInt = hi) : rg x lo hi := ⟨by rw [← ha]; exact Int32.le_iff_toInt_le.mp h.1, by rw [← hb]; exact Int32.le_iff_toInt_le.mp h.2⟩
/-- a score -/
theorem iv_sc {z : Nat → Int32} {u t : Nat} {x : Int32} (h : iv z) (ht : t < 4) (hx : rg x 0 9) : iv (upd z (13*u + t + 64) x) := by
  refine iv_un (u := u) h (by omega) (fun hu => ?_)
  have a := h.2.2.2.2.2 u hu
  unfold iu at a ⊢
  have hx9 : rg x (-1) 9 := ⟨by have := hx.1; omega, hx.2⟩
  rcases (by omega : t = 0 ∨ t = 1 ∨ t = 2 ∨ t = 3) with rfl | rfl | rfl | rfl
  · rw [upd_n (show 13*u + 62 ≠ 13*u + 0 + 64 by omega), upd_n (show 13*u + 63 ≠ 13*u + 0 + 64 by omega), show upd z (13*u + 0 + 64) x (13*u + 64) = x from upd_s, upd_n (show 13*u + 65 ≠ 13*u + 0 + 64 by omega), upd_n (show 13*u + 66 ≠ 13*u + 0 + 64 by omega), upd_n (show 13*u + 67 ≠ 13*u + 0 + 64 by omega), upd_n (show 13*u + 68 ≠ 13*u + 0 + 64 by omega), upd_n (show 13*u + 70 ≠ 13*u + 0 + 64 by omega), upd_n (show 13*u + 71 ≠ 13*u + 0 + 64 by omega), upd_n (show 13*u + 72 ≠ 13*u + 0 + 64 by omega)]
    exact ⟨a.1, a.2.1, ⟨hx9, a.2.2.1.2⟩, a.2.2.2.1, a.2.2.2.2.1, a.2.2.2.2.2.1, a.2.2.2.2.2.2.1, fun q => ⟨hx.1, (a.2.2.2.2.2.2.2 q).2⟩⟩
  · rw [upd_n (show 13*u + 62 ≠ 13*u + 1 + 64 by omega), upd_n (show 13*u + 63 ≠ 13*u + 1 + 64 by omega), upd_n (show 13*u + 64 ≠ 13*u + 1 + 64 by omega), show upd z (13*u + 1 + 64) x (13*u + 65) = x from by rw [show 13*u + 65 = 13*u + 1 + 64 by omega]; exact upd_s, upd_n (show 13*u + 66 ≠ 13*u + 1 + 64 by omega), upd_n (show 13*u + 67 ≠ 13*u + 1 + 64 by omega), upd_n (show 13*u + 68 ≠ 13*u + 1 + 64 by omega), upd_n (show 13*u + 70 ≠ 13*u + 1 + 64 by omega), upd_n (show 13*u + 71 ≠ 13*u + 1 + 64 by omega), upd_n (show 13*u + 72 ≠ 13*u + 1 + 64 by omega)]
    exact ⟨a.1, a.2.1, ⟨a.2.2.1.1, hx9, a.2.2.1.2.2⟩, a.2.2.2.1, a.2.2.2.2.1, a.2.2.2.2.2.1, a.2.2.2.2.2.2.1, fun q => ⟨(a.2.2.2.2.2.2.2 q).1, hx.1, (a.2.2.2.2.2.2.2 q).2.2⟩⟩
  · rw [upd_n (show 13*u + 62 ≠ 13*u + 2 + 64 by omega), upd_n (show 13*u + 63 ≠ 13*u + 2 + 64 by omega), upd_n (show 13*u + 64 ≠ 13*u + 2 + 64 by omega), upd_n (show 13*u + 65 ≠ 13*u + 2 + 64 by omega), show upd z (13*u + 2 + 64) x (13*u + 66) = x from by rw [show 13*u + 66 = 13*u + 2 + 64 by omega]; exact upd_s, upd_n (show 13*u + 67 ≠ 13*u + 2 + 64 by omega), upd_n (show 13*u + 68 ≠ 13*u + 2 + 64 by omega), upd_n (show 13*u + 70 ≠ 13*u + 2 + 64 by omega), upd_n (show 13*u + 71 ≠ 13*u + 2 + 64 by omega), upd_n (show 13*u + 72 ≠ 13*u + 2 + 64 by omega)]
    exact ⟨a.1, a.2.1, ⟨a.2.2.1.1, a.2.2.1.2.1, hx9, a.2.2.1.2.2.2⟩, a.2.2.2.1, a.2.2.2.2.1, a.2.2.2.2.2.1, a.2.2.2.2.2.2.1, fun q => ⟨(a.2.2.2.2.2.2.2 q).1, (a.2.2.2.2.2.2.2 q).2.1, hx.1, (a.2.2.2.2.2.2.2 q).2.2.2⟩⟩
  · rw [upd_n (show 13*u + 62 ≠ 13*u + 3 + 64 by omega), upd_n (show 13*u + 63 ≠ 13*u + 3 + 64 by omega), upd_n (show 13*u + 64 ≠ 13*u + 3 + 64 by omega), upd_n (show 13*u + 65 ≠ 13*u + 3 + 64 by omega), upd_n (show 13*u + 66 ≠ 13*u + 3 + 64 by omega), show upd z (13*u + 3 + 64) x (13*u + 67) = x from by rw [show 13*u + 67 = 13*u + 3 + 64 by omega]; exact upd_s, upd_n (show 13*u + 68 ≠ 13*u + 3 + 64 by omega), upd_n (show 13*u + 70 ≠ 13*u + 3 + 64 by omega), upd_n (show 13*u + 71 ≠ 13*u + 3 + 64 by omega), upd_n (show 13*u + 72 ≠ 13*u + 3 + 64 by omega)]
    exact ⟨a.1, a.2.1, ⟨a.2.2.1.1, a.2.2.1.2.1, a.2.2.1.2.2.1, hx9⟩, a.2.2.2.1, a.2.2.2.2.1, a.2.2.2.2.2.1, a.2.2.2.2.2.2.1, fun q => ⟨(a.2.2.2.2.2.2.2 q).1, (a.2.2.2.2.2.2.2 q).2.1, (a.2.2.2.2.2.2.2 q).2.2.1, hx.1⟩⟩
theorem iv_u8 {z : Nat → Int32} {u : Nat} {x : Int32} (h : iv z) (hx : rg x (-1) 9999) : iv (upd z (13*u + 70) x) := by
  refine iv_un (u := u) h (by omega) (fun hu => ?_)
  have a := h.2.2.2.2.2 u hu
  unfold iu at a ⊢
  rw [upd_n (show 13*u + 62 ≠ 13*u + 70 by omega), upd_n (show 13*u + 63 ≠ 13*u + 70 by omega), upd_n (show 13*u + 64 ≠ 13*u + 70 by omega), upd_n (show 13*u + 65 ≠ 13*u + 70 by omega), upd_n (show 13*u + 66 ≠ 13*u + 70 by omega), upd_n (show 13*u + 67 ≠ 13*u + 70 by omega), upd_n (show 13*u + 68 ≠ 13*u + 70 by omega), upd_s, upd_n (show 13*u + 71 ≠ 13*u + 70 by omega), upd_n (show 13*u + 72 ≠ 13*u + 70 by omega)]
  exact ⟨a.1, a.2.1, a.2.2.1, a.2.2.2.1, hx, a.2.2.2.2.2⟩
theorem iv_u9 {z : Nat → Int32} {u : Nat} {x : Int32} (h : iv z) (hx : rg x 0 3) : iv (upd z (13*u + 71) x) := by
  refine iv_un (u := u) h (by omega) (fun hu => ?_)
  have a := h.2.2.2.2.2 u hu
  unfold iu at a ⊢
  rw [upd_n (show 13*u + 62 ≠ 13*u + 71 by omega), upd_n (show 13*u + 63 ≠ 13*u + 71 by omega), upd_n (show 13*u + 64 ≠ 13*u + 71 by omega), upd_n (show 13*u + 65 ≠ 13*u + 71 by omega), upd_n (show 13*u + 66 ≠ 13*u + 71 by omega), upd_n (show 13*u + 67 ≠ 13*u + 71 by omega), upd_n (show 13*u + 68 ≠ 13*u + 71 by omega), upd_n (show 13*u + 70 ≠ 13*u + 71 by omega), upd_s, upd_n (show 13*u + 72 ≠ 13*u + 71 by omega)]
  exact ⟨a.1, a.2.1, a.2.2.1, a.2.2.2.1, a.2.2.2.2.1, hx, a.2.2.2.2.2.2⟩
theorem iv_u10 {z : Nat → Int32} {u : Nat} {x : Int32} (h : iv z) (hx : rg x 0 1) : iv (upd z (13*u + 72) x) := by
  refine iv_un (u := u) h (by omega) (fun hu => ?_)
  have a := h.2.2.2.2.2 u hu
  unfold iu at a ⊢
  rw [upd_n (show 13*u + 62 ≠ 13*u + 72 by omega), upd_n (show 13*u + 63 ≠ 13*u + 72 by omega), upd_n (show 13*u + 64 ≠ 13*u + 72 by omega), upd_n (show 13*u + 65 ≠ 13*u + 72 by omega), upd_n (show 13*u + 66 ≠ 13*u + 72 by omega), upd_n (show 13*u + 67 ≠ 13*u + 72 by omega), upd_n (show 13*u + 68 ≠ 13*u + 72 by omega), upd_n (show 13*u + 70 ≠ 13*u + 72 by omega), upd_n (show 13*u + 71 ≠ 13*u + 72 by omega), upd_s]
  exact ⟨a.1, a.2.1, a.2.2.1, a.2.2.2.1, a.2.2.2.2.1, a.2.2.2.2.2.1, hx, a.2.2.2.2.2.2.2⟩
