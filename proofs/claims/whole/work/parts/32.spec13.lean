/-! ===== the class's reading of the text: what may come next ===== -/
def dg (b : Nat) (x : Int32) : Prop := ¬ x < nI 48 ∧ x < nI 48 + nI b
theorem dg_dgt {h : Nat} {x : Int32} (hh : h < 100) : dg (h + 1) x ↔ dgt x (nI h) := by
  have e48 : (nI 48).toInt = 48 := nI_toInt (by decide)
  have eb : (nI 48 + nI (h + 1)).toInt = 48 + (h + 1) := by
    rw [nI_add]
    rw [nI_toInt (by omega)]; omega
  constructor
  · intro ⟨h1, h2⟩
    have k1 : ¬ x.toInt < (nI 48).toInt := fun q => h1 (Int32.lt_iff_toInt_lt.mpr q)
    have k2 := Int32.lt_iff_toInt_lt.mp h2
    rw [e48] at k1
    rw [eb] at k2
    have e : x = nI (48 + (x.toInt - 48).toNat) := by
      apply Int32.toInt_inj.mp
      rw [nI_toInt (by omega)]
      omega
    have e2 : x - nI 48 = nI (x.toInt - 48).toNat := by
      rw [e, pk_sub (by omega)]
      congr 1
      rw [← e]
      omega
    show nI 0 ≤ x - nI 48 ∧ x - nI 48 ≤ nI h
    rw [e2]
    exact in_n (Nat.zero_le _) (by omega) (by omega)
  · intro q
    obtain ⟨j, h1, h2⟩ := dgt_n (by omega) q
    have e : x = nI (48 + j) := by
      have : x = (x - nI 48) + nI 48 := by rw [Int32.sub_add_cancel]
      rw [this, h2, nI_add]
      congr 1
      omega
    have ex : x.toInt = 48 + j := by rw [e, nI_toInt (by omega)]; omega
    exact ⟨fun k => by have := Int32.lt_iff_toInt_lt.mp k; rw [e48] at this; omega, Int32.lt_iff_toInt_lt.mpr (by rw [eb]; omega)⟩
noncomputable def nx (k : Nat) (x : Int32) : Option Nat := match k with
  | 0 => iF (x = nI 112) (some 1) none
  | 1 => iF (dg 6 x) (some 2) none
  | 2 => iF (x = nI 114) (some 3) none
  | 3 => iF (dg 4 x) (some 4) none
  | 4 => iF (x = nI 58) (some 5) (iF (x = nI 59) (some 0) none)
  | 5 => iF (dg 10 x) (some 6) none
  | 6 => iF (dg 10 x) (some 7) none
  | 7 => iF (dg 10 x) (some 8) none
  | 8 => iF (dg 10 x) (some 9) none
  | 9 => iF (x = nI 59) (some 0) none
  | _ => none
noncomputable def auN (s : Nat) (x : Int32) (n : Nat) : Nat ⊕ Nat := match nx s x with
  | some t => .inl t
  | none => .inr n
noncomputable def au (c : Nat → Int32) : Nat → Nat ⊕ Nat
  | 0 => .inl 0
  | n + 1 => match au c n with
    | .inl s => auN s (c n) n
    | .inr e => .inr e
def auS (a : Nat ⊕ Nat) : Int32 := match a with
  | .inl s => nI s
  | .inr _ => -1
def auE (a : Nat ⊕ Nat) : Int32 := match a with
  | .inl _ => -1
  | .inr e => nI e
theorem au_l {c : Nat → Int32} {n s : Nat} (h : au c n = .inl s) : au c (n + 1) = auN s (c n) n := by
  show (match au c n with | .inl s => auN s (c n) n | .inr e => .inr e) = _
  rw [h]
theorem au_r {c : Nat → Int32} {n e : Nat} (h : au c n = .inr e) : au c (n + 1) = .inr e := by
  show (match au c n with | .inl s => auN s (c n) n | .inr e => .inr e) = _
  rw [h]
theorem auN_s {s t n : Nat} {x : Int32} (h : nx s x = some t) : auN s x n = .inl t := by unfold auN; rw [h]
theorem auN_n {s n : Nat} {x : Int32} (h : nx s x = none) : auN s x n = .inr n := by unfold auN; rw [h]
theorem au_c {c c' : Nat → Int32} : ∀ n, (∀ j, j < n → c j = c' j) → au c n = au c' n
  | 0, _ => rfl
  | n + 1, h => by
    have e := au_c n (fun j hj => h j (by omega))
    have e2 := h n (by omega)
    cases q : au c n with
    | inl s => rw [au_l q, au_l (e.symm.trans q), e2]
    | inr s => rw [au_r q, au_r (e.symm.trans q)]
theorem nx_9 {s t : Nat} {x : Int32} (h : nx s x = some t) : s ≤ 9 ∧ t ≤ 9 := by
  unfold nx at h
  split at h
  · exact ⟨by omega, by by_cases q : x = nI 112 <;> first | (rw [iF_t q] at h; cases h; omega) | (rw [iF_f q] at h; cases h)⟩
  · exact ⟨by omega, by by_cases q : dg 6 x <;> first | (rw [iF_t q] at h; cases h; omega) | (rw [iF_f q] at h; cases h)⟩
  · exact ⟨by omega, by by_cases q : x = nI 114 <;> first | (rw [iF_t q] at h; cases h; omega) | (rw [iF_f q] at h; cases h)⟩
  · exact ⟨by omega, by by_cases q : dg 4 x <;> first | (rw [iF_t q] at h; cases h; omega) | (rw [iF_f q] at h; cases h)⟩
  · refine ⟨by omega, ?_⟩
    by_cases q : x = nI 58
    · rw [iF_t q] at h; cases h; omega
    · rw [iF_f q] at h
      by_cases q2 : x = nI 59
      · rw [iF_t q2] at h; cases h; omega
      · rw [iF_f q2] at h; cases h
  · exact ⟨by omega, by by_cases q : dg 10 x <;> first | (rw [iF_t q] at h; cases h; omega) | (rw [iF_f q] at h; cases h)⟩
  · exact ⟨by omega, by by_cases q : dg 10 x <;> first | (rw [iF_t q] at h; cases h; omega) | (rw [iF_f q] at h; cases h)⟩
  · exact ⟨by omega, by by_cases q : dg 10 x <;> first | (rw [iF_t q] at h; cases h; omega) | (rw [iF_f q] at h; cases h)⟩
  · exact ⟨by omega, by by_cases q : dg 10 x <;> first | (rw [iF_t q] at h; cases h; omega) | (rw [iF_f q] at h; cases h)⟩
  · exact ⟨by omega, by by_cases q : x = nI 59 <;> first | (rw [iF_t q] at h; cases h; omega) | (rw [iF_f q] at h; cases h)⟩
  · cases h
theorem au_9 {c : Nat → Int32} : ∀ n s, au c n = .inl s → s ≤ 9
  | 0, s, h => by cases h; omega
  | n + 1, s, h => by
    cases q : au c n with
    | inl t =>
      rw [au_l q] at h
      cases k : nx t (c n) with
      | some v => rw [auN_s k] at h; cases h; exact (nx_9 k).2
      | none => rw [auN_n k] at h; cases h
    | inr t => rw [au_r q] at h; cases h
theorem au_e {c : Nat → Int32} : ∀ n e, au c n = .inr e → e < n
  | 0, _, h => by cases h
  | n + 1, e, h => by
    cases q : au c n with
    | inl t =>
      rw [au_l q] at h
      cases k : nx t (c n) with
      | some v => rw [auN_s k] at h; cases h
      | none => rw [auN_n k] at h; cases h; omega
    | inr t =>
      rw [au_r q] at h
      cases h
      have := au_e n _ q
      omega
theorem au_er {c : Nat → Int32} {n e : Nat} (h : au c n = .inr e) : ∀ d, au c (n + d) = .inr e
  | 0 => h
  | d + 1 => au_r (au_er h d)
theorem au_pre {c : Nat → Int32} {n m s : Nat} (h : au c n = .inl s) (hm : m ≤ n) : ∃ t, au c m = .inl t := by
  cases q : au c m with
  | inl t => exact ⟨t, rfl⟩
  | inr e =>
    have k := au_er q (n - m)
    rw [show m + (n - m) = n by omega, h] at k
    cases k
/-! one step, by what stands there -/
theorem st_y {c : Nat → Int32} {p s t : Nat} (h : au c p = .inl s) (k : nx s (c p) = some t) : au c (p + 1) = .inl t := (au_l h).trans (auN_s k)
theorem st_n {c : Nat → Int32} {p s : Nat} (h : au c p = .inl s) (k : nx s (c p) = none) : au c (p + 1) = .inr p := (au_l h).trans (auN_n k)
theorem chr_b {b : Nat → Int32} {n p : Nat} (h : p < n) : chr b n p = b p := iF_t h
/-- the outcome of a text in words of a place: either all n characters were read and a state reached, or there was an error at the place -/
def auO (b : Nat → Int32) (n P : Nat) (good : Prop) : Prop := (P = n ∧ ∃ s, au b n = .inl s ∧ (good ↔ s = 4 ∨ s = 9)) ∨ (P < n ∧ au b (P + 1) = .inr P ∧ ¬ good)
/-- a character that doesn't fit -/
theorem irx {b : Nat → Int32} {n p s : Nat} (h : au b p = .inl s) (hp : p ≤ n) (hx : p < n → nx s (b p) = none) (h4 : s ≠ 4 ∧ s ≠ 9) : auO b n p False := by
  by_cases q : p = n
  · exact Or.inl ⟨q, s, by rw [← q]; exact h, ⟨fun f => f.elim, fun f => by omega⟩⟩
  · exact Or.inr ⟨by omega, st_n h (hx (by omega)), fun f => f⟩
/-- a unit of the text as the class reads it -/
theorem ir_au {b : Nat → Int32} {n p t : Nat} {rd : Nat → Int32} (h : au b p = .inl 0) (hp : p ≤ n) :
    ((irT b n p t rd).2.1 = 0 ∧ auO b n (irT b n p t rd).1 False) ∨ ((irT b n p t rd).2.1 = 1 ∧ (irT b n p t rd).1 ≤ n ∧
      b p = nI 112 ∧ au b (p + 1) = .inl 1 ∧ dg 6 (b (p + 1)) ∧ au b (p + 2) = .inl 2 ∧ b (p + 2) = nI 114 ∧ au b (p + 3) = .inl 3 ∧ dg 4 (b (p + 3)) ∧ au b (p + 4) = .inl 4 ∧
      (((irT b n p t rd).1 = p + 4 ∧ ¬ chr b n (p + 4) = nI 58) ∨ ((irT b n p t rd).1 = p + 9 ∧ b (p + 4) = nI 58 ∧ au b (p + 5) = .inl 5 ∧ dg 10 (b (p + 5)) ∧ au b (p + 6) = .inl 6 ∧ dg 10 (b (p + 6)) ∧ au b (p + 7) = .inl 7 ∧ dg 10 (b (p + 7)) ∧ au b (p + 8) = .inl 8 ∧ dg 10 (b (p + 8)) ∧ au b (p + 9) = .inl 9))) := by
  unfold irT
  by_cases c0 : ¬ chr b n p = nI 112
  · rw [iF_t c0]
    exact Or.inl ⟨rfl, irx h hp (fun q => iF_f (by rw [← chr_b (b := b) (n := n) q]; exact c0)) (by omega)⟩
  rw [iF_f c0]
  have l0 := chr_lt (nn c0) (by decide) (by decide)
  have e0 : b p = nI 112 := by rw [← chr_b (b := b) (n := n) l0]; exact nn c0
  have a1 : au b (p + 1) = .inl 1 := st_y h (iF_t e0)
  by_cases c1 : ¬ dgt (chr b n (p + 1)) (nI 5)
  · rw [iF_t c1]
    exact Or.inl ⟨rfl, irx a1 l0 (fun q => iF_f (by rw [← chr_b (b := b) (n := n) q, dg_dgt (h := 5) (by decide)]; exact c1)) (by omega)⟩
  rw [iF_f c1]
  have l1 := dgt_lt (nn c1)
  have e1 : dg 6 (b (p + 1)) := by rw [← chr_b (b := b) (n := n) l1]; exact (dg_dgt (h := 5) (by decide)).mpr (nn c1)
  have a2 : au b (p + 2) = .inl 2 := st_y a1 (iF_t e1)
  by_cases c2 : ¬ chr b n (p + 2) = nI 114
  · rw [iF_t c2]
    exact Or.inl ⟨rfl, irx a2 l1 (fun q => iF_f (by rw [← chr_b (b := b) (n := n) q]; exact c2)) (by omega)⟩
  rw [iF_f c2]
  have l2 := chr_lt (nn c2) (by decide) (by decide)
  have e2 : b (p + 2) = nI 114 := by rw [← chr_b (b := b) (n := n) l2]; exact nn c2
  have a3 : au b (p + 3) = .inl 3 := st_y a2 (iF_t e2)
  by_cases c3 : ¬ dgt (chr b n (p + 3)) (nI 3)
  · rw [iF_t c3]
    exact Or.inl ⟨rfl, irx a3 l2 (fun q => iF_f (by rw [← chr_b (b := b) (n := n) q, dg_dgt (h := 3) (by decide)]; exact c3)) (by omega)⟩
  rw [iF_f c3]
  have l3 := dgt_lt (nn c3)
  have e3 : dg 4 (b (p + 3)) := by rw [← chr_b (b := b) (n := n) l3]; exact (dg_dgt (h := 3) (by decide)).mpr (nn c3)
  have a4 : au b (p + 4) = .inl 4 := st_y a3 (iF_t e3)
  by_cases c4 : ¬ chr b n (p + 4) = nI 58
  · rw [iF_t c4]
    exact Or.inr ⟨rfl, l3, e0, a1, e1, a2, e2, a3, e3, a4, Or.inl ⟨rfl, c4⟩⟩
  rw [iF_f c4]
  have l4 := chr_lt (nn c4) (by decide) (by decide)
  have e4 : b (p + 4) = nI 58 := by rw [← chr_b (b := b) (n := n) l4]; exact nn c4
  have a5 : au b (p + 5) = .inl 5 := st_y a4 (iF_t e4)
  by_cases c5 : ¬ dgt (chr b n (p + 5)) (nI 9)
  · rw [iF_t c5]
    exact Or.inl ⟨rfl, irx a5 l4 (fun q => iF_f (by rw [← chr_b (b := b) (n := n) q, dg_dgt (h := 9) (by decide)]; exact c5)) (by omega)⟩
  rw [iF_f c5]
  have l5 := dgt_lt (nn c5)
  have e5 : dg 10 (b (p + 5)) := by rw [← chr_b (b := b) (n := n) l5]; exact (dg_dgt (h := 9) (by decide)).mpr (nn c5)
  have a6 : au b (p + 6) = .inl 6 := st_y a5 (iF_t e5)
  by_cases c6 : ¬ dgt (chr b n (p + 6)) (nI 9)
  · rw [iF_t c6]
    exact Or.inl ⟨rfl, irx a6 l5 (fun q => iF_f (by rw [← chr_b (b := b) (n := n) q, dg_dgt (h := 9) (by decide)]; exact c6)) (by omega)⟩
  rw [iF_f c6]
  have l6 := dgt_lt (nn c6)
  have e6 : dg 10 (b (p + 6)) := by rw [← chr_b (b := b) (n := n) l6]; exact (dg_dgt (h := 9) (by decide)).mpr (nn c6)
  have a7 : au b (p + 7) = .inl 7 := st_y a6 (iF_t e6)
  by_cases c7 : ¬ dgt (chr b n (p + 7)) (nI 9)
  · rw [iF_t c7]
    exact Or.inl ⟨rfl, irx a7 l6 (fun q => iF_f (by rw [← chr_b (b := b) (n := n) q, dg_dgt (h := 9) (by decide)]; exact c7)) (by omega)⟩
  rw [iF_f c7]
  have l7 := dgt_lt (nn c7)
  have e7 : dg 10 (b (p + 7)) := by rw [← chr_b (b := b) (n := n) l7]; exact (dg_dgt (h := 9) (by decide)).mpr (nn c7)
  have a8 : au b (p + 8) = .inl 8 := st_y a7 (iF_t e7)
  by_cases c8 : ¬ dgt (chr b n (p + 8)) (nI 9)
  · rw [iF_t c8]
    exact Or.inl ⟨rfl, irx a8 l7 (fun q => iF_f (by rw [← chr_b (b := b) (n := n) q, dg_dgt (h := 9) (by decide)]; exact c8)) (by omega)⟩
  rw [iF_f c8]
  have l8 := dgt_lt (nn c8)
  have e8 : dg 10 (b (p + 8)) := by rw [← chr_b (b := b) (n := n) l8]; exact (dg_dgt (h := 9) (by decide)).mpr (nn c8)
  have a9 : au b (p + 9) = .inl 9 := st_y a8 (iF_t e8)
  exact Or.inr ⟨rfl, l8, e0, a1, e1, a2, e2, a3, e3, a4, Or.inr ⟨rfl, e4, a5, e5, a6, e6, a7, e7, a8, e8, a9⟩⟩
/-- every unit before the last one begins in the first state -/
theorem ar_0 {b : Nat → Int32} {n : Nat} {rd : Nat → Int32} : ∀ k, (∀ i, i < k → arC b n rd i) → au b (arP b n rd k) = .inl 0 ∧ arP b n rd k ≤ n
  | 0, _ => ⟨rfl, Nat.zero_le _⟩
  | k + 1, hC => by
    obtain ⟨a, l⟩ := ar_0 k (fun i hi => hC i (by omega))
    obtain ⟨h1, h2⟩ := hC k (by omega)
    have hl := chr_lt h2 (by decide) (by decide)
    rw [chr_b hl] at h2
    obtain ⟨rd', e⟩ := arT_ir (b := b) (n := n) (rd := rd) k
    rw [e] at h1 h2 hl
    show au b ((arT b n rd k).1 + 1) = _ ∧ (arT b n rd k).1 + 1 ≤ n
    rw [e]
    refine ⟨?_, hl⟩
    rcases ir_au (t := k) (rd := rd') a l with ⟨q, _⟩ | ⟨_, _, _, _, _, _, _, _, _, a4, q⟩
    · rw [q] at h1; cases h1
    · rcases q with ⟨q1, q2⟩ | ⟨q1, _, _, _, _, _, _, _, _, _, a9⟩
      · rw [q1] at h2 ⊢
        exact st_y a4 ((iF_f (by rw [h2]; decide)).trans (iF_t h2))
      · rw [q1] at h2 ⊢
        exact st_y a9 (iF_t h2)
/-- the whole text -/
theorem ar_au {b : Nat → Int32} {n : Nat} {rd : Nat → Int32} (hn : n ≤ 60) : auO b n (arT b n rd (arK b n rd)).1 (arG b n rd) := by
  obtain ⟨hC, hK, hB⟩ := arK_all (b := b) (rd := rd) hn
  obtain ⟨a, l⟩ := ar_0 (arK b n rd) hC
  obtain ⟨rd', e⟩ := arT_ir (b := b) (n := n) (rd := rd) (arK b n rd)
  unfold arG
  unfold arC at hK
  rw [e] at hK ⊢
  rcases ir_au (t := arK b n rd) (rd := rd') a l with ⟨q, h⟩ | ⟨q1, q2, _, _, _, _, _, _, _, a4, q⟩
  · have g : ¬ ((irT b n (arP b n rd (arK b n rd)) (arK b n rd) rd').2.1 = 1 ∧ (irT b n (arP b n rd (arK b n rd)) (arK b n rd) rd').1 = n) := fun f => by rw [q] at f; exact absurd f.1 (by decide)
    rcases h with ⟨h1, s, h2, h3⟩ | ⟨h1, h2, h3⟩
    · exact Or.inl ⟨h1, s, h2, ⟨fun f => absurd f g, fun f => (h3.mpr f).elim⟩⟩
    · exact Or.inr ⟨h1, h2, g⟩
  · by_cases hn : (irT b n (arP b n rd (arK b n rd)) (arK b n rd) rd').1 = n
    · refine Or.inl ⟨hn, ?_⟩
      rcases q with ⟨q3, _⟩ | ⟨q3, _, _, _, _, _, _, _, _, _, a9⟩
      · exact ⟨4, by rw [← hn, q3]; exact a4, ⟨fun _ => Or.inl rfl, fun _ => ⟨q1, hn⟩⟩⟩
      · exact ⟨9, by rw [← hn, q3]; exact a9, ⟨fun _ => Or.inr rfl, fun _ => ⟨q1, hn⟩⟩⟩
    · have hl : (irT b n (arP b n rd (arK b n rd)) (arK b n rd) rd').1 < n := by omega
      refine Or.inr ⟨hl, ?_, fun f => hn f.2⟩
      have h59 : ¬ b (irT b n (arP b n rd (arK b n rd)) (arK b n rd) rd').1 = nI 59 := fun f => hK ⟨q1, by rw [chr_b hl]; exact f⟩
      rcases q with ⟨q3, q4⟩ | ⟨q3, _, _, _, _, _, _, _, _, _, a9⟩
      · rw [q3] at hl h59 ⊢
        rw [chr_b hl] at q4
        exact st_n a4 ((iF_f q4).trans (iF_f h59))
      · rw [q3] at hl h59 ⊢
        exact st_n a9 (iF_f h59)
/-- the place of the first error; the length if there is none -/
theorem ar_err {b : Nat → Int32} {n : Nat} {rd : Nat → Int32} (hn : n ≤ 60) : (∃ s, au b n = .inl s ∧ (arT b n rd (arK b n rd)).1 = n ∧ (arG b n rd ↔ s = 4 ∨ s = 9)) ∨ (au b n = .inr (arT b n rd (arK b n rd)).1 ∧ ¬ arG b n rd) := by
  rcases ar_au (b := b) (rd := rd) hn with ⟨h1, s, h2, h3⟩ | ⟨h1, h2, h3⟩
  · exact Or.inl ⟨s, h2, h1, h3⟩
  · refine Or.inr ⟨?_, h3⟩
    have k := au_er h2 (n - ((arT b n rd (arK b n rd)).1 + 1))
    rw [show (arT b n rd (arK b n rd)).1 + 1 + (n - ((arT b n rd (arK b n rd)).1 + 1)) = n by omega] at k
    exact k
