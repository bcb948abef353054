/-! ===== the whole text ===== -/
theorem irT_ge {b : Nat → Int32} {n p t : Nat} {rd : Nat → Int32} : p ≤ (irT b n p t rd).1 := by
  unfold irT
  by_cases c0 : ¬ chr b n p = nI 112
  · rw [iF_t c0]; exact Nat.le_refl _
  rw [iF_f c0]
  by_cases c1 : ¬ dgt (chr b n (p + 1)) (nI 5)
  · rw [iF_t c1]; exact Nat.le_add_right _ _
  rw [iF_f c1]
  by_cases c2 : ¬ chr b n (p + 2) = nI 114
  · rw [iF_t c2]; exact Nat.le_add_right _ _
  rw [iF_f c2]
  by_cases c3 : ¬ dgt (chr b n (p + 3)) (nI 3)
  · rw [iF_t c3]; exact Nat.le_add_right _ _
  rw [iF_f c3]
  by_cases c4 : ¬ chr b n (p + 4) = nI 58
  · rw [iF_t c4]; exact Nat.le_add_right _ _
  rw [iF_f c4]
  by_cases c5 : ¬ dgt (chr b n (p + 5)) (nI 9)
  · rw [iF_t c5]; exact Nat.le_add_right _ _
  rw [iF_f c5]
  by_cases c6 : ¬ dgt (chr b n (p + 6)) (nI 9)
  · rw [iF_t c6]; exact Nat.le_add_right _ _
  rw [iF_f c6]
  by_cases c7 : ¬ dgt (chr b n (p + 7)) (nI 9)
  · rw [iF_t c7]; exact Nat.le_add_right _ _
  rw [iF_f c7]
  by_cases c8 : ¬ dgt (chr b n (p + 8)) (nI 9)
  · rw [iF_t c8]; exact Nat.le_add_right _ _
  rw [iF_f c8]
  exact Nat.le_add_right _ _
theorem no4_o {rd : Nat → Int32} {t j : Nat} (h : j < 6*t ∨ 6*t + 6 ≤ j) : no4 rd t j = rd j := by
  unfold no4
  rw [upd_n (by omega), upd_n (by omega), upd_n (by omega), upd_n (by omega)]
theorem irT_o {b : Nat → Int32} {n p t j : Nat} {rd : Nat → Int32} (h : j < 6*t ∨ 6*t + 6 ≤ j) : (irT b n p t rd).2.2 j = rd j := by
  unfold irT
  by_cases c0 : ¬ chr b n p = nI 112
  · rw [iF_t c0]; exact no4_o h
  rw [iF_f c0]
  by_cases c1 : ¬ dgt (chr b n (p + 1)) (nI 5)
  · rw [iF_t c1]; exact (no4_o h).trans (upd_n (by omega))
  rw [iF_f c1]
  by_cases c2 : ¬ chr b n (p + 2) = nI 114
  · rw [iF_t c2]; exact (no4_o h).trans (upd_n (by omega))
  rw [iF_f c2]
  by_cases c3 : ¬ dgt (chr b n (p + 3)) (nI 3)
  · rw [iF_t c3]; exact (no4_o h).trans ((upd_n (by omega)).trans (upd_n (by omega)))
  rw [iF_f c3]
  by_cases c4 : ¬ chr b n (p + 4) = nI 58
  · rw [iF_t c4]; exact (no4_o h).trans ((upd_n (by omega)).trans (upd_n (by omega)))
  rw [iF_f c4]
  by_cases c5 : ¬ dgt (chr b n (p + 5)) (nI 9)
  · rw [iF_t c5]; exact (upd_n (by omega)).trans ((upd_n (by omega)).trans (upd_n (by omega)))
  rw [iF_f c5]
  by_cases c6 : ¬ dgt (chr b n (p + 6)) (nI 9)
  · rw [iF_t c6]; exact (upd_n (by omega)).trans ((upd_n (by omega)).trans ((upd_n (by omega)).trans (upd_n (by omega))))
  rw [iF_f c6]
  by_cases c7 : ¬ dgt (chr b n (p + 7)) (nI 9)
  · rw [iF_t c7]; exact (upd_n (by omega)).trans ((upd_n (by omega)).trans ((upd_n (by omega)).trans ((upd_n (by omega)).trans (upd_n (by omega)))))
  rw [iF_f c7]
  by_cases c8 : ¬ dgt (chr b n (p + 8)) (nI 9)
  · rw [iF_t c8]; exact (upd_n (by omega)).trans ((upd_n (by omega)).trans ((upd_n (by omega)).trans ((upd_n (by omega)).trans ((upd_n (by omega)).trans (upd_n (by omega))))))
  rw [iF_f c8]
  exact (upd_n (by omega)).trans ((upd_n (by omega)).trans ((upd_n (by omega)).trans ((upd_n (by omega)).trans ((upd_n (by omega)).trans (upd_n (by omega))))))
theorem dgt_n {x : Int32} {h : Nat} (hh : h < 2 ^ 30) (q : dgt x (nI h)) : ∃ j : Nat, j < h + 1 ∧ x - nI 48 = nI j := inR_of (by omega) q
/-- what a whole unit's reading leaves -/
theorem irT_ok {b : Nat → Int32} {n p t : Nat} {rd : Nat → Int32} (h : (irT b n p t rd).2.1 = 1) : chr b n p = nI 112 ∧ dgt (chr b n (p + 1)) (nI 5) ∧ chr b n (p + 2) = nI 114 ∧ dgt (chr b n (p + 3)) (nI 3) ∧ (irT b n p t rd).2.2 (6*t) = chr b n (p + 1) - nI 48 ∧ (irT b n p t rd).2.2 (6*t + 1) = chr b n (p + 3) - nI 48 ∧
    ((¬ chr b n (p + 4) = nI 58 ∧ (irT b n p t rd).1 = p + 4 ∧ ∀ i, i < 4 → (irT b n p t rd).2.2 (6*t + i + 2) = -1) ∨ (chr b n (p + 4) = nI 58 ∧ (irT b n p t rd).1 = p + 9 ∧ ∀ i, i < 4 → dgt (chr b n (p + i + 5)) (nI 9) ∧ (irT b n p t rd).2.2 (6*t + i + 2) = chr b n (p + i + 5) - nI 48)) := by
  unfold irT at h ⊢
  by_cases c0 : ¬ chr b n p = nI 112
  · rw [iF_t c0] at h; cases h
  rw [iF_f c0] at h ⊢
  by_cases c1 : ¬ dgt (chr b n (p + 1)) (nI 5)
  · rw [iF_t c1] at h; cases h
  rw [iF_f c1] at h ⊢
  by_cases c2 : ¬ chr b n (p + 2) = nI 114
  · rw [iF_t c2] at h; cases h
  rw [iF_f c2] at h ⊢
  by_cases c3 : ¬ dgt (chr b n (p + 3)) (nI 3)
  · rw [iF_t c3] at h; cases h
  rw [iF_f c3] at h ⊢
  by_cases c4 : ¬ chr b n (p + 4) = nI 58
  · rw [iF_t c4] at h ⊢
    refine ⟨nn c0, nn c1, nn c2, nn c3, ?_, ?_, Or.inl ⟨c4, rfl, fun i hi => ?_⟩⟩
    · exact (upd_n (by omega)).trans ((upd_n (by omega)).trans ((upd_n (by omega)).trans ((upd_n (by omega)).trans ((upd_n (by omega)).trans upd_s))))
    · exact (upd_n (by omega)).trans ((upd_n (by omega)).trans ((upd_n (by omega)).trans ((upd_n (by omega)).trans upd_s)))
    · show no4 _ t (6*t + i + 2) = -1
      unfold no4
      rcases (by omega : i = 0 ∨ i = 1 ∨ i = 2 ∨ i = 3) with rfl | rfl | rfl | rfl
      · exact (upd_n (by omega)).trans ((upd_n (by omega)).trans ((upd_n (by omega)).trans (by rw [show 6*t + 0 + 2 = 6*t + 2 by omega]; exact upd_s)))
      · exact (upd_n (by omega)).trans ((upd_n (by omega)).trans (by rw [show 6*t + 1 + 2 = 6*t + 3 by omega]; exact upd_s))
      · exact (upd_n (by omega)).trans (by rw [show 6*t + 2 + 2 = 6*t + 4 by omega]; exact upd_s)
      · rw [show 6*t + 3 + 2 = 6*t + 5 by omega]; exact upd_s
  rw [iF_f c4] at h ⊢
  by_cases c5 : ¬ dgt (chr b n (p + 5)) (nI 9)
  · rw [iF_t c5] at h; cases h
  rw [iF_f c5] at h ⊢
  by_cases c6 : ¬ dgt (chr b n (p + 6)) (nI 9)
  · rw [iF_t c6] at h; cases h
  rw [iF_f c6] at h ⊢
  by_cases c7 : ¬ dgt (chr b n (p + 7)) (nI 9)
  · rw [iF_t c7] at h; cases h
  rw [iF_f c7] at h ⊢
  by_cases c8 : ¬ dgt (chr b n (p + 8)) (nI 9)
  · rw [iF_t c8] at h; cases h
  rw [iF_f c8]
  refine ⟨nn c0, nn c1, nn c2, nn c3, ?_, ?_, Or.inr ⟨nn c4, rfl, fun i hi => ?_⟩⟩
  · exact (upd_n (by omega)).trans ((upd_n (by omega)).trans ((upd_n (by omega)).trans ((upd_n (by omega)).trans ((upd_n (by omega)).trans upd_s))))
  · exact (upd_n (by omega)).trans ((upd_n (by omega)).trans ((upd_n (by omega)).trans ((upd_n (by omega)).trans upd_s)))
  · rcases (by omega : i = 0 ∨ i = 1 ∨ i = 2 ∨ i = 3) with rfl | rfl | rfl | rfl
    · exact ⟨nn c5, (upd_n (by omega)).trans ((upd_n (by omega)).trans ((upd_n (by omega)).trans (by rw [show 6*t + 0 + 2 = 6*t + 2 by omega, show p + 0 + 5 = p + 5 by omega]; exact upd_s)))⟩
    · rw [show p + 1 + 5 = p + 6 by omega]
      exact ⟨nn c6, (upd_n (by omega)).trans ((upd_n (by omega)).trans (by rw [show 6*t + 1 + 2 = 6*t + 3 by omega]; exact upd_s))⟩
    · rw [show p + 2 + 5 = p + 7 by omega]
      exact ⟨nn c7, (upd_n (by omega)).trans (by rw [show 6*t + 2 + 2 = 6*t + 4 by omega]; exact upd_s)⟩
    · rw [show p + 3 + 5 = p + 8 by omega]
      exact ⟨nn c8, by rw [show 6*t + 3 + 2 = 6*t + 5 by omega]; exact upd_s⟩
theorem arF_s {b : Nat → Int32} {n k : Nat} {rd : Nat → Int32} (h : arC b n rd k) (hk : k < 13) : arF b n rd (13 - k) k = arF b n rd (13 - (k + 1)) (k + 1) := by
  rw [show 13 - k = (13 - (k + 1)) + 1 by omega]
  exact iF_t h
/-- the place and the mark behind the k-th unit, as far as it was come to -/
def arB (b : Nat → Int32) (n : Nat) (rd : Nat → Int32) (k : Nat) : Prop := 5*k ≤ (arT b n rd k).1 ∧ (arT b n rd k).1 ≤ n ∧ ((arT b n rd k).2.1 = 0 ∨ ((arT b n rd k).2.1 = 1 ∧ 5*k + 4 ≤ (arT b n rd k).1))
theorem arB_0 {b : Nat → Int32} {n : Nat} {rd : Nat → Int32} : arB b n rd 0 := by
  have a := irT_p (b := b) (n := n) (p := 0) (t := 0) (rd := rd) (Nat.zero_le n)
  exact ⟨Nat.zero_le _, a.1, a.2⟩
theorem arB_s {b : Nat → Int32} {n k : Nat} {rd : Nat → Int32} (h : arB b n rd k) (hc : arC b n rd k) : arB b n rd (k + 1) ∧ (arT b n rd k).1 < n := by
  have hl := chr_lt hc.2 (by decide) (by decide)
  have a := irT_p (b := b) (n := n) (p := (arT b n rd k).1 + 1) (t := k + 1) (rd := (arT b n rd k).2.2) hl
  have g := irT_ge (b := b) (n := n) (p := (arT b n rd k).1 + 1) (t := k + 1) (rd := (arT b n rd k).2.2)
  have h4 : 5*k + 4 ≤ (arT b n rd k).1 := by
    rcases h.2.2 with q | q
    · exact absurd (q.symm.trans hc.1) (by decide)
    · exact q.2
  refine ⟨⟨?_, a.1, ?_⟩, hl⟩
  · show 5*(k + 1) ≤ (irT b n _ (k + 1) _).1
    omega
  · rcases a.2 with q | q
    · exact Or.inl q
    · refine Or.inr ⟨q.1, ?_⟩
      show 5*(k + 1) + 4 ≤ (irT b n _ (k + 1) _).1
      omega
/-- all marks up to the last one -/
theorem arK_le {b : Nat → Int32} {n : Nat} {rd : Nat → Int32} (hn : n ≤ 60) : ∀ (f k : Nat), f + k = 13 → arB b n rd k → (∀ i, i < k → arC b n rd i) → (∀ i, i < arF b n rd f k → arC b n rd i) ∧ ¬ arC b n rd (arF b n rd f k) ∧ arB b n rd (arF b n rd f k)
  | 0, k, hf, hB, hC => by
    have : k = 13 := by omega
    subst this
    have h := hB.1
    have h2 := hB.2.1
    omega
  | f + 1, k, hf, hB, hC => by
    by_cases c : arC b n rd k
    · have e : arF b n rd (f + 1) k = arF b n rd f (k + 1) := iF_t c
      rw [e]
      exact arK_le hn f (k + 1) (by omega) (arB_s hB c).1 (fun i hi => by
        by_cases q : i = k
        · rw [q]; exact c
        · exact hC i (by omega))
    · have e : arF b n rd (f + 1) k = k := iF_f c
      rw [e]
      exact ⟨hC, c, hB⟩
theorem arK_all {b : Nat → Int32} {n : Nat} {rd : Nat → Int32} (hn : n ≤ 60) : (∀ i, i < arK b n rd → arC b n rd i) ∧ ¬ arC b n rd (arK b n rd) ∧ arB b n rd (arK b n rd) := arK_le hn 13 0 rfl arB_0 (fun i hi => absurd hi (by omega))
/-- where the k-th unit begins -/
noncomputable def arP (b : Nat → Int32) (n : Nat) (rd : Nat → Int32) : Nat → Nat
  | 0 => 0
  | k + 1 => (arT b n rd k).1 + 1
theorem arT_ir {b : Nat → Int32} {n : Nat} {rd : Nat → Int32} : ∀ k, ∃ rd', arT b n rd k = irT b n (arP b n rd k) k rd'
  | 0 => ⟨rd, rfl⟩
  | k + 1 => ⟨(arT b n rd k).2.2, rfl⟩
theorem arT_keep {b : Nat → Int32} {n : Nat} {rd : Nat → Int32} {i : Nat} : ∀ (d j : Nat), j < 6*i + 6 → (arT b n rd (i + d)).2.2 j = (arT b n rd i).2.2 j
  | 0, j, _ => rfl
  | d + 1, j, h => by
    have e : (arT b n rd (i + d + 1)).2.2 j = (arT b n rd (i + d)).2.2 j := irT_o (Or.inl (by omega))
    exact e.trans (arT_keep d j h)
noncomputable def uq (b : Nat → Int32) (n : Nat) (rd : Nat → Int32) (i : Nat) : Nat := (chr b n (arP b n rd i + 1) - nI 48).toNatClampNeg
noncomputable def ux (b : Nat → Int32) (n : Nat) (rd : Nat → Int32) (i : Nat) : Nat := (chr b n (arP b n rd i + 3) - nI 48).toNatClampNeg
noncomputable def us (b : Nat → Int32) (n : Nat) (rd : Nat → Int32) (i t : Nat) : Int32 := iF (chr b n (arP b n rd i + 4) = nI 58) (chr b n (arP b n rd i + t + 5) - nI 48) (-1)
/-- the rows of numbers read, for a text without an error -/
theorem ar_rd {b : Nat → Int32} {n : Nat} {rd : Nat → Int32} (hn : n ≤ 60) (hG : arG b n rd) {i : Nat} (hi : i ≤ arK b n rd) : (arT b n rd (arK b n rd)).2.2 (6*i) = nI (uq b n rd i) ∧ uq b n rd i < 6 ∧ (arT b n rd (arK b n rd)).2.2 (6*i + 1) = nI (ux b n rd i) ∧ ux b n rd i < 4 ∧ ∀ t, t < 4 → (arT b n rd (arK b n rd)).2.2 (6*i + t + 2) = us b n rd i t ∧ rg (us b n rd i t) (-1) 9 := by
  obtain ⟨a1, a2, a3⟩ := arK_all (b := b) (rd := rd) hn
  have hf : (arT b n rd i).2.1 = 1 := by
    by_cases q : i = arK b n rd
    · rw [q]; exact hG.1
    · exact (a1 i (by omega)).1
  obtain ⟨d, hd⟩ : ∃ d, arK b n rd = i + d := ⟨arK b n rd - i, by omega⟩
  obtain ⟨rd', e⟩ := arT_ir (b := b) (n := n) (rd := rd) i
  have hf2 : (irT b n (arP b n rd i) i rd').2.1 = 1 := by rw [← e]; exact hf
  obtain ⟨k0, k1, k2, k3, k4, k5, k6⟩ := irT_ok hf2
  rw [← e] at k4 k5 k6
  have keep : ∀ j, j < 6*i + 6 → (arT b n rd (arK b n rd)).2.2 j = (arT b n rd i).2.2 j := fun j hj => by rw [hd]; exact arT_keep d j hj
  obtain ⟨j1, m1, m2⟩ := dgt_n (by decide) k1
  obtain ⟨j3, m3, m4⟩ := dgt_n (by decide) k3
  have u1 : uq b n rd i = j1 := by unfold uq; rw [m2, nI_clamp (by omega)]
  have u3 : ux b n rd i = j3 := by unfold ux; rw [m4, nI_clamp (by omega)]
  refine ⟨by rw [keep _ (by omega), k4, u1, m2], by omega, by rw [keep _ (by omega), k5, u3, m4], by omega, fun t ht => ?_⟩
  rw [keep _ (by omega)]
  unfold us
  rcases k6 with ⟨q1, q2, q3⟩ | ⟨q1, q2, q3⟩
  · rw [iF_f q1]
    exact ⟨q3 t ht, ⟨by decide, by decide⟩⟩
  · rw [iF_t q1]
    obtain ⟨jt, m5, m6⟩ := dgt_n (by decide) (q3 t ht).1
    refine ⟨(q3 t ht).2, ?_⟩
    rw [m6]
    exact nI_rg (by omega) (by omega) (by omega)
/-! the units of a text come -/
def rs4 (z : Nat → Int32) (q r : Nat) (f : Nat → Int32) : Nat → Int32 := upd (upd (upd (upd (rcv z q r) (13*cn z + 64) (f 0)) (13*cn z + 65) (f 1)) (13*cn z + 66) (f 2)) (13*cn z + 67) (f 3)
noncomputable def raZ (b : Nat → Int32) (n : Nat) (rd z : Nat → Int32) : Nat → (Nat → Int32)
  | 0 => z
  | k + 1 => rs4 (raZ b n rd z k) (uq b n rd k) (ux b n rd k) (us b n rd k)
theorem cn_rcv {z : Nat → Int32} {q r : Nat} (h : cn z < 20) : cn (rcv z q r) = cn z + 1 := by
  have e : (rcv z q r) 0 = nI (cn z + 1) := upd_s
  show ((rcv z q r) 0).toNatClampNeg = _
  rw [e, nI_clamp (by omega)]
theorem cn_rs4 {z : Nat → Int32} {q r : Nat} {f : Nat → Int32} (h : cn z < 20) : cn (rs4 z q r f) = cn z + 1 := by
  unfold rs4
  rw [cn_u (by omega), cn_u (by omega), cn_u (by omega), cn_u (by omega), cn_rcv h]
theorem rcv_lo {z : Nat → Int32} {q r j : Nat} (h0 : j ≠ 0) (h : j < 13*cn z + 62) : rcv z q r j = z j := by
  unfold rcv
  rw [upd_n h0, upd_n (by omega), upd_n (by omega), upd_n (by omega), upd_n (by omega), upd_n (by omega), upd_n (by omega), upd_n (by omega), clr_n h]
theorem rcv_hi {z : Nat → Int32} {q r c : Nat} (hc : 62 ≤ c ∧ c < 75) : rcv z q r (13*cn z + c) = if c = 62 then nI q else if c = 63 then nI r else if (64 ≤ c ∧ c ≤ 67) ∨ c = 70 then -1 else nI 0 := by
  unfold rcv
  rw [upd_n (by omega)]
  by_cases e70 : c = 70
  · subst e70
    rw [upd_s]; rfl
  rw [upd_n (by omega)]
  by_cases e67 : c = 67
  · subst e67
    rw [upd_s]; rfl
  rw [upd_n (by omega)]
  by_cases e66 : c = 66
  · subst e66
    rw [upd_s]; rfl
  rw [upd_n (by omega)]
  by_cases e65 : c = 65
  · subst e65
    rw [upd_s]; rfl
  rw [upd_n (by omega)]
  by_cases e64 : c = 64
  · subst e64
    rw [upd_s]; rfl
  rw [upd_n (by omega)]
  by_cases e63 : c = 63
  · subst e63
    rw [upd_s]; rfl
  rw [upd_n (by omega)]
  by_cases e62 : c = 62
  · subst e62
    rw [upd_s]; rfl
  rw [upd_n (by omega)]
  unfold clr
  rw [if_pos (by omega), if_neg e62, if_neg e63, if_neg (by omega)]
theorem iv_rcv {z : Nat → Int32} {q r : Nat} (h : iv z) (hc : cn z < 20) (hq : q < 6) (hr : r < 4) : iv (rcv z q r) := by
  have hcn := cn_rcv (q := q) (r := r) hc
  have lo : ∀ j, j ≠ 0 → j < 62 → rcv z q r j = z j := fun j h0 hj => rcv_lo h0 (by omega)
  refine ⟨?_, by rw [lo 10 (by omega) (by omega)]; exact h.2.1, by rw [lo 11 (by omega) (by omega)]; exact h.2.2.1, fun i hi => ?_, fun v x hv hx => by rw [lo _ (by omega) (by omega)]; exact h.2.2.2.2.1 v x hv hx, fun u hu => ?_⟩
  · rw [show (rcv z q r) 0 = nI (cn z + 1) from upd_s]
    exact nI_rg (by omega) (by omega) (by omega)
  · rw [lo _ (by omega) (by omega), lo _ (by omega) (by omega), lo _ (by omega) (by omega)]
    exact h.2.2.2.1 i hi
  · rw [hcn] at hu
    by_cases e : u = cn z
    · subst e
      have f : ∀ c, 62 ≤ c ∧ c < 75 → rcv z q r (13*cn z + c) = if c = 62 then nI q else if c = 63 then nI r else if (64 ≤ c ∧ c ≤ 67) ∨ c = 70 then -1 else nI 0 := fun c hc => rcv_hi hc
      have m1 : rg (-1 : Int32) (-1) 9 := ⟨by decide, by decide⟩
      have v62 : rcv z q r (13*cn z + 62) = nI q := (f 62 (by decide)).trans (by simp)
      have v63 : rcv z q r (13*cn z + 63) = nI r := (f 63 (by decide)).trans (by simp)
      have v64 : rcv z q r (13*cn z + 64) = -1 := (f 64 (by decide)).trans (by simp)
      have v65 : rcv z q r (13*cn z + 65) = -1 := (f 65 (by decide)).trans (by simp)
      have v66 : rcv z q r (13*cn z + 66) = -1 := (f 66 (by decide)).trans (by simp)
      have v67 : rcv z q r (13*cn z + 67) = -1 := (f 67 (by decide)).trans (by simp)
      have v68 : rcv z q r (13*cn z + 68) = nI 0 := (f 68 (by decide)).trans (by simp)
      have v70 : rcv z q r (13*cn z + 70) = -1 := (f 70 (by decide)).trans (by simp)
      have v71 : rcv z q r (13*cn z + 71) = nI 0 := (f 71 (by decide)).trans (by simp)
      have v72 : rcv z q r (13*cn z + 72) = nI 0 := (f 72 (by decide)).trans (by simp)
      unfold iu
      rw [v62, v63, v64, v65, v66, v67, v68, v70, v71, v72]
      refine ⟨nI_rg (by omega) (by omega) (by omega), nI_rg (by omega) (by omega) (by omega), ⟨m1, m1, m1, m1⟩, ⟨by decide, by decide⟩, ⟨by decide, by decide⟩, ⟨by decide, by decide⟩, ⟨by decide, by decide⟩, fun k => ?_⟩
      exact absurd k (by decide)
    · have a := h.2.2.2.2.2 u (by omega)
      unfold iu at a ⊢
      rw [rcv_lo (by omega) (by omega), rcv_lo (by omega) (by omega), rcv_lo (by omega) (by omega), rcv_lo (by omega) (by omega), rcv_lo (by omega) (by omega), rcv_lo (by omega) (by omega), rcv_lo (by omega) (by omega), rcv_lo (by omega) (by omega), rcv_lo (by omega) (by omega), rcv_lo (by omega) (by omega)]
      exact a
theorem iv_s9 {z : Nat → Int32} {u t : Nat} {x : Int32} (h : iv z) (ht : t < 4) (hx : rg x (-1) 9) (hw : u < cn z → ¬ z (13*u + 68) = nI 1) : iv (upd z (13*u + t + 64) x) := by
  refine iv_un (u := u) h (by omega) fun hu => ?_
  have a := h.2.2.2.2.2 u hu
  have hw := hw hu
  unfold iu at a ⊢
  obtain ⟨a1, a2, ⟨a3, a4, a5, a6⟩, a7, a8, a9, a10, a11⟩ := a
  rw [upd_n (k := 13*u + t + 64) (j := 13*u + 62) (by omega), upd_n (k := 13*u + t + 64) (j := 13*u + 63) (by omega), upd_n (k := 13*u + t + 64) (j := 13*u + 68) (by omega), upd_n (k := 13*u + t + 64) (j := 13*u + 70) (by omega), upd_n (k := 13*u + t + 64) (j := 13*u + 71) (by omega), upd_n (k := 13*u + t + 64) (j := 13*u + 72) (by omega)]
  have g : ∀ c, rg (z c) (-1) 9 → rg (upd z (13*u + t + 64) x c) (-1) 9 := by
    intro c hc
    by_cases e : c = 13*u + t + 64
    · rw [e, upd_s]; exact hx
    · rw [upd_n e]; exact hc
  exact ⟨a1, a2, ⟨g _ a3, g _ a4, g _ a5, g _ a6⟩, a7, a8, a9, a10, fun q => absurd q hw⟩
theorem rcv_68 {z : Nat → Int32} {q r : Nat} : rcv z q r (13*cn z + 68) = nI 0 := (rcv_hi (c := 68) (by decide)).trans (by simp)
theorem iv_p9 {z : Nat → Int32} {u t p : Nat} {x : Int32} (h : iv z) (ht : t < 4) (hp : p = 13*u + t + 64) (hx : rg x (-1) 9) (hw : ¬ z (13*u + 68) = nI 1) : iv (upd z p x) ∧ ¬ (upd z p x) (13*u + 68) = nI 1 := by
  subst hp
  exact ⟨iv_s9 h ht hx fun _ => hw, by rw [upd_n (by omega)]; exact hw⟩
theorem iv_rs4 {z : Nat → Int32} {q r : Nat} {f : Nat → Int32} (h : iv z) (hc : cn z < 20) (hq : q < 6) (hr : r < 4) (hf : ∀ t, t < 4 → rg (f t) (-1) 9) : iv (rs4 z q r f) := by
  have h0 := iv_rcv h hc hq hr
  have n0 : ¬ nI 0 = nI 1 := by decide
  have e0 : ¬ rcv z q r (13*cn z + 68) = nI 1 := by rw [rcv_68]; exact n0
  unfold rs4
  generalize rcv z q r = y at h0 e0 ⊢
  have h1 := iv_p9 (u := cn z) (t := 0) (p := 13*cn z + 64) h0 (by omega) (by omega) (hf 0 (by omega)) e0
  have h2 := iv_p9 (u := cn z) (t := 1) (p := 13*cn z + 65) h1.1 (by omega) (by omega) (hf 1 (by omega)) h1.2
  have h3 := iv_p9 (u := cn z) (t := 2) (p := 13*cn z + 66) h2.1 (by omega) (by omega) (hf 2 (by omega)) h2.2
  exact (iv_p9 (u := cn z) (t := 3) (p := 13*cn z + 67) h3.1 (by omega) (by omega) (hf 3 (by omega)) h3.2).1
theorem raZ_iv {b : Nat → Int32} {n : Nat} {rd z : Nat → Int32} (hn : n ≤ 60) (hG : arG b n rd) (h : iv z) (hc : cn z + arK b n rd + 1 ≤ 20) : ∀ k, k ≤ arK b n rd + 1 → iv (raZ b n rd z k) ∧ cn (raZ b n rd z k) = cn z + k
  | 0, _ => ⟨h, rfl⟩
  | k + 1, hk => by
    obtain ⟨i1, i2⟩ := raZ_iv hn hG h hc k (by omega)
    obtain ⟨_, u1, _, u2, u3⟩ := ar_rd hn hG (i := k) (by omega)
    have c9 : cn (raZ b n rd z k) < 20 := by omega
    refine ⟨iv_rs4 i1 c9 u1 u2 fun t ht => (u3 t ht).2, ?_⟩
    rw [show raZ b n rd z (k + 1) = rs4 (raZ b n rd z k) (uq b n rd k) (ux b n rd k) (us b n rd k) from rfl, cn_rs4 c9, i2]
    omega
