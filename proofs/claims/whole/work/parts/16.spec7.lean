/-! ===== the text: characters, one unit of it, all ===== -/
noncomputable def chr (b : Nat → Int32) (n p : Nat) : Int32 := iF (p < n) (b p) (nI 0)
def dgt (x hi : Int32) : Prop := nI 0 ≤ x - nI 48 ∧ x - nI 48 ≤ hi
theorem chr_lt {b : Nat → Int32} {n p k : Nat} (h : chr b n p = nI k) (hk : 0 < k) (hk2 : k < 2 ^ 31) : p < n := by
  apply Classical.byContradiction
  intro q
  unfold chr at h
  rw [iF_f q] at h
  have := (nI_eq (by omega) hk2).mp h
  omega
theorem dgt_lt {b : Nat → Int32} {n p : Nat} {hi : Int32} (h : dgt (chr b n p) hi) : p < n := by
  apply Classical.byContradiction
  intro q
  unfold dgt chr at h
  rw [iF_f q] at h
  exact absurd h.1 (by decide)
def no4 (rd : Nat → Int32) (t : Nat) : Nat → Int32 := upd (upd (upd (upd rd (6*t + 2) (-1)) (6*t + 3) (-1)) (6*t + 4) (-1)) (6*t + 5) (-1)
noncomputable def irT (b : Nat → Int32) (n p t : Nat) (rd : Nat → Int32) : Nat × Nat × (Nat → Int32) :=
  iF (¬ chr b n p = nI 112) (p, 0, no4 rd t)
  (iF (¬ dgt (chr b n (p + 1)) (nI 5)) (p + 1, 0, no4 (upd rd (6*t) (chr b n (p + 1) - nI 48)) t)
  (iF (¬ chr b n (p + 2) = nI 114) (p + 2, 0, no4 (upd rd (6*t) (chr b n (p + 1) - nI 48)) t)
  (iF (¬ dgt (chr b n (p + 3)) (nI 3)) (p + 3, 0, no4 (upd (upd rd (6*t) (chr b n (p + 1) - nI 48)) (6*t + 1) (chr b n (p + 3) - nI 48)) t)
  (iF (¬ chr b n (p + 4) = nI 58) (p + 4, 1, no4 (upd (upd rd (6*t) (chr b n (p + 1) - nI 48)) (6*t + 1) (chr b n (p + 3) - nI 48)) t)
  (iF (¬ dgt (chr b n (p + 5)) (nI 9)) (p + 5, 0, upd (upd (upd rd (6*t) (chr b n (p + 1) - nI 48)) (6*t + 1) (chr b n (p + 3) - nI 48)) (6*t + 2) (chr b n (p + 5) - nI 48))
  (iF (¬ dgt (chr b n (p + 6)) (nI 9)) (p + 6, 0, upd (upd (upd (upd rd (6*t) (chr b n (p + 1) - nI 48)) (6*t + 1) (chr b n (p + 3) - nI 48)) (6*t + 2) (chr b n (p + 5) - nI 48)) (6*t + 3) (chr b n (p + 6) - nI 48))
  (iF (¬ dgt (chr b n (p + 7)) (nI 9)) (p + 7, 0, upd (upd (upd (upd (upd rd (6*t) (chr b n (p + 1) - nI 48)) (6*t + 1) (chr b n (p + 3) - nI 48)) (6*t + 2) (chr b n (p + 5) - nI 48)) (6*t + 3) (chr b n (p + 6) - nI 48)) (6*t + 4) (chr b n (p + 7) - nI 48))
  (iF (¬ dgt (chr b n (p + 8)) (nI 9)) (p + 8, 0, upd (upd (upd (upd (upd (upd rd (6*t) (chr b n (p + 1) - nI 48)) (6*t + 1) (chr b n (p + 3) - nI 48)) (6*t + 2) (chr b n (p + 5) - nI 48)) (6*t + 3) (chr b n (p + 6) - nI 48)) (6*t + 4) (chr b n (p + 7) - nI 48)) (6*t + 5) (chr b n (p + 8) - nI 48))
  (p + 9, 1, upd (upd (upd (upd (upd (upd rd (6*t) (chr b n (p + 1) - nI 48)) (6*t + 1) (chr b n (p + 3) - nI 48)) (6*t + 2) (chr b n (p + 5) - nI 48)) (6*t + 3) (chr b n (p + 6) - nI 48)) (6*t + 4) (chr b n (p + 7) - nI 48)) (6*t + 5) (chr b n (p + 8) - nI 48))))))))))
theorem nn {P : Prop} (h : ¬ ¬ P) : P := Classical.byContradiction h
/-- where one unit's reading ends -/
theorem irT_p {b : Nat → Int32} {n p t : Nat} {rd : Nat → Int32} (h : p ≤ n) : (irT b n p t rd).1 ≤ n ∧ ((irT b n p t rd).2.1 = 0 ∨ ((irT b n p t rd).2.1 = 1 ∧ p + 4 ≤ (irT b n p t rd).1)) := by
  unfold irT
  by_cases c0 : ¬ chr b n p = nI 112
  · rw [iF_t c0]; exact ⟨h, Or.inl rfl⟩
  rw [iF_f c0]
  have l0 := chr_lt (nn c0) (by decide) (by decide)
  by_cases c1 : ¬ dgt (chr b n (p + 1)) (nI 5)
  · rw [iF_t c1]; exact ⟨l0, Or.inl rfl⟩
  rw [iF_f c1]
  have l1 := dgt_lt (nn c1)
  by_cases c2 : ¬ chr b n (p + 2) = nI 114
  · rw [iF_t c2]; exact ⟨l1, Or.inl rfl⟩
  rw [iF_f c2]
  have l2 := chr_lt (nn c2) (by decide) (by decide)
  by_cases c3 : ¬ dgt (chr b n (p + 3)) (nI 3)
  · rw [iF_t c3]; exact ⟨l2, Or.inl rfl⟩
  rw [iF_f c3]
  have l3 := dgt_lt (nn c3)
  by_cases c4 : ¬ chr b n (p + 4) = nI 58
  · rw [iF_t c4]; exact ⟨l3, Or.inr ⟨rfl, Nat.le_refl _⟩⟩
  rw [iF_f c4]
  have l4 := chr_lt (nn c4) (by decide) (by decide)
  by_cases c5 : ¬ dgt (chr b n (p + 5)) (nI 9)
  · rw [iF_t c5]; exact ⟨l4, Or.inl rfl⟩
  rw [iF_f c5]
  have l5 := dgt_lt (nn c5)
  by_cases c6 : ¬ dgt (chr b n (p + 6)) (nI 9)
  · rw [iF_t c6]; exact ⟨l5, Or.inl rfl⟩
  rw [iF_f c6]
  have l6 := dgt_lt (nn c6)
  by_cases c7 : ¬ dgt (chr b n (p + 7)) (nI 9)
  · rw [iF_t c7]; exact ⟨l6, Or.inl rfl⟩
  rw [iF_f c7]
  have l7 := dgt_lt (nn c7)
  by_cases c8 : ¬ dgt (chr b n (p + 8)) (nI 9)
  · rw [iF_t c8]; exact ⟨l7, Or.inl rfl⟩
  rw [iF_f c8]
  exact ⟨dgt_lt (nn c8), Or.inr ⟨rfl, by show p + 4 ≤ p + 9; omega⟩⟩
/-- behind the k-th unit (from 0) -/
noncomputable def arT (b : Nat → Int32) (n : Nat) (rd : Nat → Int32) : Nat → Nat × Nat × (Nat → Int32)
  | 0 => irT b n 0 0 rd
  | k + 1 => irT b n ((arT b n rd k).1 + 1) (k + 1) (arT b n rd k).2.2
def arC (b : Nat → Int32) (n : Nat) (rd : Nat → Int32) (k : Nat) : Prop := (arT b n rd k).2.1 = 1 ∧ chr b n (arT b n rd k).1 = nI 59
noncomputable def arF (b : Nat → Int32) (n : Nat) (rd : Nat → Int32) : Nat → Nat → Nat
  | 0, k => k
  | f + 1, k => iF (arC b n rd k) (arF b n rd f (k + 1)) k
noncomputable def arK (b : Nat → Int32) (n : Nat) (rd : Nat → Int32) : Nat := arF b n rd 13 0
def arG (b : Nat → Int32) (n : Nat) (rd : Nat → Int32) : Prop := (arT b n rd (arK b n rd)).2.1 = 1 ∧ (arT b n rd (arK b n rd)).1 = n
theorem arF_n {b : Nat → Int32} {n f k : Nat} {rd : Nat → Int32} (h : ¬ arC b n rd k) : arF b n rd f k = k := by
  cases f with
  | zero => rfl
  | succ f => exact iF_f h
