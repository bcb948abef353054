/-! ===== the units of a whole text, character by character ===== -/
def sC (b : Nat → Int32) : Nat → Nat
  | 0 => 0
  | j + 1 => sC b j + (if b j = nI 59 then 1 else 0)
def tS (a : Nat ⊕ Nat) : Nat := match a with
  | .inl 3 => 1
  | _ => 0
noncomputable def tC (b : Nat → Int32) : Nat → Nat
  | 0 => 0
  | j + 1 => tC b j + tS (au b j)
def puS (s : Nat) (x : Int32) (y : (Nat → Int32) × Int32) : (Nat → Int32) × Int32 := match s with
  | 1 => (y.1, x - nI 48)
  | 3 => (rcv y.1 y.2.toNatClampNeg (x - nI 48).toNatClampNeg, y.2)
  | 5 => (upd y.1 (13*(cn y.1 - 1) + 64) (x - nI 48), y.2)
  | 6 => (upd y.1 (13*(cn y.1 - 1) + 65) (x - nI 48), y.2)
  | 7 => (upd y.1 (13*(cn y.1 - 1) + 66) (x - nI 48), y.2)
  | 8 => (upd y.1 (13*(cn y.1 - 1) + 67) (x - nI 48), y.2)
  | _ => y
def puA (a : Nat ⊕ Nat) (x : Int32) (y : (Nat → Int32) × Int32) : (Nat → Int32) × Int32 := match a with
  | .inl s => puS s x y
  | .inr _ => y
noncomputable def pu (b z : Nat → Int32) : Nat → (Nat → Int32) × Int32
  | 0 => (z, nI 0)
  | i + 1 => puA (au b i) (b i) (pu b z i)
theorem pu_l {b z : Nat → Int32} {i s : Nat} (h : au b i = .inl s) : pu b z (i + 1) = puS s (b i) (pu b z i) := by
  show puA (au b i) (b i) (pu b z i) = _
  rw [h]
  rfl
theorem tC_l {b : Nat → Int32} {i s : Nat} (h : au b i = .inl s) : tC b (i + 1) = tC b i + tS (.inl s) := by
  show tC b i + tS (au b i) = _
  rw [h]
theorem sC_n {b : Nat → Int32} {i : Nat} (h : ¬ b i = nI 59) : sC b (i + 1) = sC b i := by
  show sC b i + (if b i = nI 59 then 1 else 0) = _
  rw [if_neg h]; rfl
theorem sC_s {b : Nat → Int32} {i : Nat} (h : b i = nI 59) : sC b (i + 1) = sC b i + 1 := by
  show sC b i + (if b i = nI 59 then 1 else 0) = _
  rw [if_pos h]
theorem dg_59 {h : Nat} {x : Int32} (hh : h ≤ 10) (q : dg h x) : ¬ x = nI 59 := fun e => by
  have k := Int32.lt_iff_toInt_lt.mp q.2
  rw [e, nI_add, nI_toInt (by decide), nI_toInt (by omega)] at k
  omega
theorem pu_4 {b z : Nat → Int32} {p : Nat} (h0 : au b p = .inl 0) (h1 : au b (p + 1) = .inl 1) (h2 : au b (p + 2) = .inl 2) (h3 : au b (p + 3) = .inl 3) (e0 : b p = nI 112) (e1 : dg 6 (b (p + 1))) (e2 : b (p + 2) = nI 114) (e3 : dg 4 (b (p + 3))) :
    pu b z (p + 4) = (rcv (pu b z p).1 (b (p + 1) - nI 48).toNatClampNeg (b (p + 3) - nI 48).toNatClampNeg, b (p + 1) - nI 48) ∧ tC b (p + 4) = tC b p + 1 ∧ sC b (p + 4) = sC b p := by
  have k1 : pu b z (p + 1) = pu b z p := pu_l h0
  have k2 : pu b z (p + 2) = ((pu b z p).1, b (p + 1) - nI 48) := (pu_l h1).trans (by rw [k1]; rfl)
  have k3 : pu b z (p + 3) = ((pu b z p).1, b (p + 1) - nI 48) := (pu_l h2).trans (by rw [k2]; rfl)
  refine ⟨(pu_l h3).trans (by rw [k3]; rfl), ?_, ?_⟩
  · have t1 : tC b (p + 1) = tC b p := tC_l h0
    have t2 : tC b (p + 2) = tC b (p + 1) := tC_l h1
    have t3 : tC b (p + 3) = tC b (p + 2) := tC_l h2
    have t4 : tC b (p + 4) = tC b (p + 3) + 1 := tC_l h3
    omega
  · have t1 : sC b (p + 1) = sC b p := sC_n (by rw [e0]; decide)
    have t2 : sC b (p + 2) = sC b (p + 1) := sC_n (dg_59 (by decide) e1)
    have t3 : sC b (p + 3) = sC b (p + 2) := sC_n (by rw [e2]; decide)
    have t4 : sC b (p + 4) = sC b (p + 3) := sC_n (dg_59 (by decide) e3)
    omega
theorem pu_9 {b z : Nat → Int32} {p : Nat} (h4 : au b (p + 4) = .inl 4) (e4 : b (p + 4) = nI 58) (h5 : au b (p + 5) = .inl 5) (e5 : dg 10 (b (p + 5))) (h6 : au b (p + 6) = .inl 6) (e6 : dg 10 (b (p + 6))) (h7 : au b (p + 7) = .inl 7) (e7 : dg 10 (b (p + 7))) (h8 : au b (p + 8) = .inl 8) (e8 : dg 10 (b (p + 8))) :
    (pu b z (p + 9)).1 = upd (upd (upd (upd (pu b z (p + 4)).1 (13*(cn (pu b z (p + 4)).1 - 1) + 64) (b (p + 5) - nI 48)) (13*(cn (pu b z (p + 4)).1 - 1) + 65) (b (p + 6) - nI 48)) (13*(cn (pu b z (p + 4)).1 - 1) + 66) (b (p + 7) - nI 48)) (13*(cn (pu b z (p + 4)).1 - 1) + 67) (b (p + 8) - nI 48) ∧ tC b (p + 9) = tC b (p + 4) ∧ sC b (p + 9) = sC b (p + 4) := by
  have k5 : pu b z (p + 5) = pu b z (p + 4) := pu_l h4
  have k6 : (pu b z (p + 6)).1 = upd (pu b z (p + 4)).1 (13*(cn (pu b z (p + 4)).1 - 1) + 64) (b (p + 5) - nI 48) := (congrArg Prod.fst (pu_l h5)).trans (by rw [k5]; rfl)
  have k7 : (pu b z (p + 7)).1 = upd (pu b z (p + 6)).1 (13*(cn (pu b z (p + 6)).1 - 1) + 65) (b (p + 6) - nI 48) := congrArg Prod.fst (pu_l h6)
  have k8 : (pu b z (p + 8)).1 = upd (pu b z (p + 7)).1 (13*(cn (pu b z (p + 7)).1 - 1) + 66) (b (p + 7) - nI 48) := congrArg Prod.fst (pu_l h7)
  have k9 : (pu b z (p + 9)).1 = upd (pu b z (p + 8)).1 (13*(cn (pu b z (p + 8)).1 - 1) + 67) (b (p + 8) - nI 48) := congrArg Prod.fst (pu_l h8)
  refine ⟨?_, ?_, ?_⟩
  · have c6 : cn (pu b z (p + 6)).1 = cn (pu b z (p + 4)).1 := by rw [k6, cn_u (by omega)]
    have c7 : cn (pu b z (p + 7)).1 = cn (pu b z (p + 4)).1 := by rw [k7, cn_u (by omega), c6]
    have c8 : cn (pu b z (p + 8)).1 = cn (pu b z (p + 4)).1 := by rw [k8, cn_u (by omega), c7]
    rw [k9, c8, k8, c7, k7, c6, k6]
  · have t5 : tC b (p + 5) = tC b (p + 4) := tC_l h4
    have t6 : tC b (p + 6) = tC b (p + 5) := tC_l h5
    have t7 : tC b (p + 7) = tC b (p + 6) := tC_l h6
    have t8 : tC b (p + 8) = tC b (p + 7) := tC_l h7
    have t9 : tC b (p + 9) = tC b (p + 8) := tC_l h8
    omega
  · have t5 : sC b (p + 5) = sC b (p + 4) := sC_n (by rw [e4]; decide)
    have t6 : sC b (p + 6) = sC b (p + 5) := sC_n (dg_59 (by decide) e5)
    have t7 : sC b (p + 7) = sC b (p + 6) := sC_n (dg_59 (by decide) e6)
    have t8 : sC b (p + 8) = sC b (p + 7) := sC_n (dg_59 (by decide) e7)
    have t9 : sC b (p + 9) = sC b (p + 8) := sC_n (dg_59 (by decide) e8)
    omega
theorem cn_raZ {b : Nat → Int32} {n : Nat} {rd z : Nat → Int32} : ∀ k, cn z + k ≤ 20 → cn (raZ b n rd z k) = cn z + k
  | 0, _ => rfl
  | k + 1, h => by
    have e := cn_raZ (b := b) (n := n) (rd := rd) (z := z) k (by omega)
    show cn (rs4 _ _ _ _) = _
    rw [cn_rs4 (by omega), e]
    omega
theorem upd_id {z : Nat → Int32} {p : Nat} {x : Int32} (h : z p = x) : upd z p x = z := by
  funext j
  by_cases e : j = p
  · rw [e, upd_s, h]
  · rw [upd_n e]
theorem rs4_n {z : Nat → Int32} {q r : Nat} {f : Nat → Int32} (h : ∀ t, t < 4 → f t = -1) : rs4 z q r f = rcv z q r := by
  unfold rs4
  have e : ∀ c, 64 ≤ c → c ≤ 67 → rcv z q r (13*cn z + c) = -1 := fun c h1 h2 => by
    rw [rcv_hi (by omega), if_neg (by omega), if_neg (by omega), if_pos (by omega)]
  rw [h 0 (by omega), h 1 (by omega), h 2 (by omega), h 3 (by omega), upd_id (e 64 (by omega) (by omega)), upd_id (e 65 (by omega) (by omega)), upd_id (e 66 (by omega) (by omega)), upd_id (e 67 (by omega) (by omega))]
/-- one unit of a text, whole -/
theorem pu_un {b : Nat → Int32} {n k : Nat} {rd z : Nat → Int32} (hc : cn z + k < 20) (a : au b (arP b n rd k) = .inl 0) (l : arP b n rd k ≤ n) (h1 : (arT b n rd k).2.1 = 1) (e : (pu b z (arP b n rd k)).1 = raZ b n rd z k) :
    (pu b z (arT b n rd k).1).1 = raZ b n rd z (k + 1) ∧ tC b (arT b n rd k).1 = tC b (arP b n rd k) + 1 ∧ sC b (arT b n rd k).1 = sC b (arP b n rd k) ∧ (au b (arT b n rd k).1 = .inl 4 ∨ au b (arT b n rd k).1 = .inl 9) := by
  obtain ⟨rd', e9⟩ := arT_ir (b := b) (n := n) (rd := rd) k
  rw [e9] at h1 ⊢
  have hcr := cn_raZ (b := b) (n := n) (rd := rd) (z := z) k (by omega)
  rcases ir_au (t := k) (rd := rd') a l with ⟨q, _⟩ | ⟨_, ln, e0, a1, e1, a2, e2, a3, e3, a4, q⟩
  · rw [q] at h1; cases h1
  · obtain ⟨p4, t4, s4⟩ := pu_4 (z := z) a a1 a2 a3 e0 e1 e2 e3
    have l1 : arP b n rd k + 1 < n := by rcases q with ⟨q1, _⟩ | ⟨q1, _⟩ <;> omega
    have l3 : arP b n rd k + 3 < n := by rcases q with ⟨q1, _⟩ | ⟨q1, _⟩ <;> omega
    have r1 : (b (arP b n rd k + 1) - nI 48).toNatClampNeg = uq b n rd k := by unfold uq; rw [chr_b l1]
    have r3 : (b (arP b n rd k + 3) - nI 48).toNatClampNeg = ux b n rd k := by unfold ux; rw [chr_b l3]
    have m4 : (pu b z (arP b n rd k + 4)).1 = rcv (raZ b n rd z k) (uq b n rd k) (ux b n rd k) := by rw [p4, ← e, r1, r3]
    rcases q with ⟨q1, q2⟩ | ⟨q1, e4, a5, e5, a6, e6, a7, e7, a8, e8, a9⟩
    · rw [q1]
      refine ⟨?_, t4, s4, Or.inl a4⟩
      rw [m4]
      exact (rs4_n (fun t _ => by unfold us; rw [iF_f q2])).symm
    · rw [q1]
      obtain ⟨p9, t9, s9⟩ := pu_9 (z := z) a4 e4 a5 e5 a6 e6 a7 e7 a8 e8
      refine ⟨?_, by omega, by omega, Or.inr a9⟩
      rw [p9, m4, cn_rcv (by omega), Nat.add_sub_cancel]
      show _ = rs4 _ _ _ _
      unfold rs4
      have u : ∀ t, t < 4 → us b n rd k t = b (arP b n rd k + t + 5) - nI 48 := fun t ht => by
        unfold us
        rw [iF_t (by rw [chr_b (by omega)]; exact e4), chr_b (by omega)]
      rw [u 0 (by omega), u 1 (by omega), u 2 (by omega), u 3 (by omega)]
/-- .. all of them -/
theorem pu_ar {b : Nat → Int32} {n : Nat} {rd z : Nat → Int32} : ∀ k, (∀ i, i < k → arC b n rd i) → cn z + k ≤ 20 → (pu b z (arP b n rd k)).1 = raZ b n rd z k ∧ tC b (arP b n rd k) = k ∧ sC b (arP b n rd k) = k
  | 0, _, _ => ⟨rfl, rfl, rfl⟩
  | k + 1, hC, hc => by
    obtain ⟨x1, x2, x3⟩ := pu_ar (z := z) k (fun i hi => hC i (by omega)) (by omega)
    obtain ⟨a, l⟩ := ar_0 k (fun i hi => hC i (by omega))
    obtain ⟨h1, h2⟩ := hC k (by omega)
    have hl := chr_lt h2 (by decide) (by decide)
    rw [chr_b hl] at h2
    obtain ⟨y1, y2, y3, y4⟩ := pu_un (z := z) (by omega) a l h1 x1
    show (pu b z ((arT b n rd k).1 + 1)).1 = _ ∧ tC b ((arT b n rd k).1 + 1) = _ ∧ sC b ((arT b n rd k).1 + 1) = _
    rw [sC_s h2, y3, x3]
    rcases y4 with y4 | y4
    · rw [pu_l y4, tC_l y4, y2, x2]; exact ⟨y1, rfl, rfl⟩
    · rw [pu_l y4, tC_l y4, y2, x2]; exact ⟨y1, rfl, rfl⟩
theorem pu_all {b : Nat → Int32} {n : Nat} {rd z : Nat → Int32} (hn : n ≤ 60) (hG : arG b n rd) (hc : cn z + arK b n rd + 1 ≤ 20) : (pu b z n).1 = raZ b n rd z (arK b n rd + 1) ∧ tC b n = arK b n rd + 1 ∧ sC b n = arK b n rd := by
  obtain ⟨hC, hK, hB⟩ := arK_all (b := b) (rd := rd) hn
  obtain ⟨x1, x2, x3⟩ := pu_ar (z := z) (arK b n rd) hC (by omega)
  obtain ⟨a, l⟩ := ar_0 (arK b n rd) hC
  obtain ⟨y1, y2, y3, y4⟩ := pu_un (z := z) (by omega) a l hG.1 x1
  rw [hG.2] at y1 y2 y3
  exact ⟨y1, by omega, by omega⟩
/-- the units counted by their ends, whatever the desk holds -/
theorem sC_all {b : Nat → Int32} {n : Nat} {rd : Nat → Int32} (hn : n ≤ 60) (hG : arG b n rd) : sC b n = arK b n rd := by
  have hsC : ∀ k, (∀ i, i < k → arC b n rd i) → sC b (arP b n rd k) = k := by
    intro k
    induction k with
    | zero => intro _; rfl
    | succ k ih =>
      intro hC
      have x3 := ih (fun i hi => hC i (by omega))
      obtain ⟨a, l⟩ := ar_0 k (fun i hi => hC i (by omega))
      obtain ⟨h1, h2⟩ := hC k (by omega)
      have hl := chr_lt h2 (by decide) (by decide)
      rw [chr_b hl] at h2
      show sC b ((arT b n rd k).1 + 1) = _
      rw [sC_s h2]
      obtain ⟨rd', e9⟩ := arT_ir (b := b) (n := n) (rd := rd) k
      rw [e9] at h1 ⊢
      rcases ir_au (t := k) (rd := rd') a l with ⟨q, _⟩ | ⟨_, ln, e0, a1, e1, a2, e2, a3, e3, a4, q⟩
      · rw [q] at h1; cases h1
      · obtain ⟨_, _, s4⟩ := pu_4 (z := fun _ => 0) a a1 a2 a3 e0 e1 e2 e3
        rcases q with ⟨q1, q2⟩ | ⟨q1, e4, a5, e5, a6, e6, a7, e7, a8, e8, a9⟩
        · rw [q1]; omega
        · rw [q1]
          obtain ⟨_, _, s9⟩ := pu_9 (z := fun _ => 0) a4 e4 a5 e5 a6 e6 a7 e7 a8 e8
          omega
  obtain ⟨hC, hK, hB⟩ := arK_all (b := b) (rd := rd) hn
  have x3 := hsC (arK b n rd) hC
  obtain ⟨a, l⟩ := ar_0 (arK b n rd) hC
  obtain ⟨rd', e9⟩ := arT_ir (b := b) (n := n) (rd := rd) (arK b n rd)
  obtain ⟨g1, g2⟩ := hG
  rw [e9] at g1 g2
  rcases ir_au (t := arK b n rd) (rd := rd') a l with ⟨q, _⟩ | ⟨_, ln, e0, a1, e1, a2, e2, a3, e3, a4, q⟩
  · rw [q] at g1; cases g1
  · obtain ⟨_, _, s4⟩ := pu_4 (z := fun _ => 0) a a1 a2 a3 e0 e1 e2 e3
    rcases q with ⟨q1, q2⟩ | ⟨q1, e4, a5, e5, a6, e6, a7, e7, a8, e8, a9⟩
    · rw [q1] at g2; rw [g2] at s4; omega
    · rw [q1] at g2
      obtain ⟨_, _, s9⟩ := pu_9 (z := fun _ => 0) a4 e4 a5 e5 a6 e6 a7 e7 a8 e8
      rw [g2] at s9; omega
theorem tC_mono {b : Nat → Int32} {i : Nat} : ∀ d, tC b i ≤ tC b (i + d)
  | 0 => Nat.le_refl _
  | d + 1 => by
    have := tC_mono (b := b) (i := i) d
    show tC b i ≤ tC b (i + d) + tS _
    omega
theorem puS_sc {t : Nat} {x : Int32} {y : (Nat → Int32) × Int32} (ht : t < 4) : puS (t + 5) x y = (upd y.1 (13*(cn y.1 - 1) + t + 64) (x - nI 48), y.2) := by
  rcases (by omega : t = 0 ∨ t = 1 ∨ t = 2 ∨ t = 3) with e | e | e | e <;> subst e <;> rfl
theorem nx_1 {x : Int32} {t : Nat} (h : nx 1 x = some t) : dg 6 x ∧ t = 2 := by
  by_cases q : dg 6 x
  · rw [show nx 1 x = _ from iF_t q] at h; cases h; exact ⟨q, rfl⟩
  · rw [show nx 1 x = _ from iF_f q] at h; cases h
theorem nx_3 {x : Int32} {t : Nat} (h : nx 3 x = some t) : dg 4 x ∧ t = 4 := by
  by_cases q : dg 4 x
  · rw [show nx 3 x = _ from iF_t q] at h; cases h; exact ⟨q, rfl⟩
  · rw [show nx 3 x = _ from iF_f q] at h; cases h
theorem nx_sc {x : Int32} {t s : Nat} (hs : s < 4) (h : nx (s + 5) x = some t) : dg 10 x ∧ t = s + 6 := by
  by_cases q : dg 10 x
  · rcases (by omega : s = 0 ∨ s = 1 ∨ s = 2 ∨ s = 3) with e | e | e | e <;> subst e
    · rw [show nx (0 + 5) x = _ from iF_t q] at h; cases h; exact ⟨q, rfl⟩
    · rw [show nx (1 + 5) x = _ from iF_t q] at h; cases h; exact ⟨q, rfl⟩
    · rw [show nx (2 + 5) x = _ from iF_t q] at h; cases h; exact ⟨q, rfl⟩
    · rw [show nx (3 + 5) x = _ from iF_t q] at h; cases h; exact ⟨q, rfl⟩
  · rcases (by omega : s = 0 ∨ s = 1 ∨ s = 2 ∨ s = 3) with e | e | e | e <;> subst e
    · rw [show nx (0 + 5) x = _ from iF_f q] at h; cases h
    · rw [show nx (1 + 5) x = _ from iF_f q] at h; cases h
    · rw [show nx (2 + 5) x = _ from iF_f q] at h; cases h
    · rw [show nx (3 + 5) x = _ from iF_f q] at h; cases h
theorem nx_0 {x : Int32} {t : Nat} (h : nx 0 x = some t) : t = 1 := by
  by_cases q : x = nI 112
  · rw [show nx 0 x = _ from iF_t q] at h; cases h; rfl
  · rw [show nx 0 x = _ from iF_f q] at h; cases h
theorem nx_2 {x : Int32} {t : Nat} (h : nx 2 x = some t) : t = 3 := by
  by_cases q : x = nI 114
  · rw [show nx 2 x = _ from iF_t q] at h; cases h; rfl
  · rw [show nx 2 x = _ from iF_f q] at h; cases h
theorem au_nx {b : Nat → Int32} {i s t : Nat} (h : au b i = .inl s) (k : au b (i + 1) = .inl t) : nx s (b i) = some t := by
  rw [au_l h] at k
  unfold auN at k
  split at k
  · cases k; assumption
  · cases k
theorem dg_nI {h : Nat} {x : Int32} (hh : h < 100) (q : dg (h + 1) x) : ∃ j, j < h + 1 ∧ x - nI 48 = nI j := dgt_n (by omega) ((dg_dgt hh).mp q)
/-- what holds at each character of a text without an error -/
def puI9 (b z : Nat → Int32) (i : Nat) : Prop := iv (pu b z i).1 ∧ cn (pu b z i).1 = cn z + tC b i ∧ ∀ s, au b i = .inl s → (s = 2 ∨ s = 3 → ∃ q, q < 6 ∧ (pu b z i).2 = nI q) ∧ (4 ≤ s → 1 ≤ tC b i)
theorem pu_inv {b z : Nat → Int32} {n e : Nat} (hI : iv z) (hG : au b n = .inl e) (hc : cn z + tC b n ≤ 20) : ∀ i, i ≤ n → puI9 b z i
  | 0, _ => ⟨hI, rfl, fun s h => by cases h; exact ⟨fun f => by omega, fun f => by omega⟩⟩
  | i + 1, hi => by
    obtain ⟨i1, i2, i3⟩ := pu_inv hI hG hc i (by omega)
    obtain ⟨s, hs⟩ := au_pre hG (m := i) (by omega)
    obtain ⟨t, ht⟩ := au_pre hG (m := i + 1) hi
    have hx := au_nx hs ht
    obtain ⟨j1, j2⟩ := i3 s hs
    have hT : ∀ s', au b (i + 1) = .inl s' → s' = t := fun s' h' => by rw [ht] at h'; cases h'; rfl
    have hm : tC b (i + 1) ≤ tC b n := by
      have := tC_mono (b := b) (i := i + 1) (n - (i + 1))
      rw [show i + 1 + (n - (i + 1)) = n by omega] at this
      exact this
    unfold puI9
    rw [pu_l hs, tC_l hs] at *
    have h9 := au_9 i s hs
    rcases (by omega : s = 0 ∨ s = 1 ∨ s = 2 ∨ s = 3 ∨ s = 4 ∨ (5 ≤ s ∧ s ≤ 8) ∨ s = 9) with c | c | c | c | c | c | c
    · subst c
      exact ⟨i1, i2, fun s' h' => by have := hT s' h'; have := nx_0 hx; exact ⟨fun f => by omega, fun f => by omega⟩⟩
    · subst c
      obtain ⟨q1, q2⟩ := nx_1 hx
      obtain ⟨q, q3, q4⟩ := dg_nI (h := 5) (by decide) q1
      exact ⟨i1, i2, fun s' h' => by have := hT s' h'; exact ⟨fun f => ⟨q, q3, q4⟩, fun f => by omega⟩⟩
    · subst c
      obtain ⟨q, q1, q2⟩ := j1 (Or.inl rfl)
      exact ⟨i1, i2, fun s' h' => by have := hT s' h'; have := nx_2 hx; exact ⟨fun f => ⟨q, q1, q2⟩, fun f => by omega⟩⟩
    · subst c
      obtain ⟨q1, q2⟩ := nx_3 hx
      obtain ⟨r, r3, r4⟩ := dg_nI (h := 3) (by decide) q1
      obtain ⟨q, q3, q4⟩ := j1 (Or.inr rfl)
      have e3 : tS (.inl 3) = 1 := rfl
      rw [e3] at hm ⊢
      have hlt : cn (pu b z i).1 < 20 := by omega
      refine ⟨?_, ?_, fun s' h' => ?_⟩
      · show iv (rcv _ _ _)
        rw [q4, r4, nI_clamp (by omega), nI_clamp (by omega)]
        exact iv_rcv i1 hlt q3 r3
      · show cn (rcv _ _ _) = _
        rw [cn_rcv hlt, i2]
        omega
      · have := hT s' h'
        exact ⟨fun f => by omega, fun f => by omega⟩
    · subst c
      exact ⟨i1, i2, fun s' h' => by
        have e1 := hT s' h'
        have := j2 (Nat.le_refl _)
        have e2 : t = 5 ∨ t = 0 := by
          by_cases q : b i = nI 58
          · rw [show nx 4 (b i) = _ from iF_t q] at hx; cases hx; exact Or.inl rfl
          · rw [show nx 4 (b i) = _ from iF_f q] at hx
            by_cases q2 : b i = nI 59
            · rw [iF_t q2] at hx; cases hx; exact Or.inr rfl
            · rw [iF_f q2] at hx; cases hx
        exact ⟨fun f => by omega, fun f => by show 1 ≤ tC b i + 0; omega⟩⟩
    · obtain ⟨d, rfl⟩ : ∃ d, s = d + 5 := ⟨s - 5, by omega⟩
      obtain ⟨q1, q2⟩ := nx_sc (by omega) hx
      obtain ⟨r, r3, r4⟩ := dg_nI (h := 9) (by decide) q1
      have e0 : tS (.inl (d + 5)) = 0 := by
        rcases (by omega : d = 0 ∨ d = 1 ∨ d = 2 ∨ d = 3) with e | e | e | e <;> subst e <;> rfl
      have := j2 (by omega)
      rw [puS_sc (by omega), e0]
      refine ⟨?_, ?_, fun s' h' => ?_⟩
      · show iv (upd _ _ _)
        rw [r4]
        exact iv_sc i1 (by omega) (nI_rg (by omega) (by omega) (by omega))
      · show cn (upd _ _ _) = _
        rw [cn_u (by omega)]
        exact i2
      · have := hT s' h'
        exact ⟨fun f => by omega, fun f => by omega⟩
    · subst c
      exact ⟨i1, i2, fun s' h' => by
        have e1 := hT s' h'
        have := j2 (by omega)
        have e2 : t = 0 := by
          by_cases q : b i = nI 59
          · rw [show nx 9 (b i) = _ from iF_t q] at hx; cases hx; rfl
          · rw [show nx 9 (b i) = _ from iF_f q] at hx; cases hx
        exact ⟨fun f => by omega, fun f => by omega⟩⟩
