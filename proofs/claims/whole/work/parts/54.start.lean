/-! ===== what the tables say at the start ===== -/
theorem ke_start {A : Array Value} {s : State} (hts : ∀ w ∈ lw_tbl, w.before A s = true) : ∃ E : ke_E, ke E s := by
  obtain ⟨c0, i0, h0⟩ := u_known (C := RX0) (T := TX0) (N := 4) (n := 4) hts inX0 (hts (.instantiable RX0 4) (by decide +kernel))
  obtain ⟨c1, i1, h1⟩ := u_known (C := RX1) (T := TX1) (N := 7) (n := 7) hts inX1 (hts (.instantiable RX1 7) (by decide +kernel))
  obtain ⟨c2, i2, h2⟩ := u_known (C := RX2) (T := TX2) (N := 2) (n := 2) hts inX2 (hts (.instantiable RX2 2) (by decide +kernel))
  obtain ⟨c3, i3, h3⟩ := u_known (C := RX3) (T := TX3) (N := 3) (n := 3) hts inX3 (hts (.instantiable RX3 3) (by decide +kernel))
  obtain ⟨c4, i4, h4⟩ := u_known (C := RX4) (T := TX4) (N := 10) (n := 10) hts inX4 (hts (.instantiable RX4 10) (by decide +kernel))
  obtain ⟨c5, i5, h5⟩ := u_known (C := RX5) (T := TX5) (N := 5) (n := 5) hts inX5 (hts (.instantiable RX5 5) (by decide +kernel))
  obtain ⟨c6, i6, h6⟩ := u_known (C := RX6) (T := TX6) (N := 4) (n := 4) hts inX6 (hts (.instantiable RX6 4) (by decide +kernel))
  obtain ⟨c7, i7, h7⟩ := u_known (C := RX7) (T := TX7) (N := 11) (n := 11) hts inX7 (hts (.instantiable RX7 11) (by decide +kernel))
  obtain ⟨a0, k0, p0, f0, g0, e0⟩ := Cond.arrayClass_spec (hts (.arrayClass .int) (by decide +kernel))
  obtain ⟨q1, a1, k1, f1, _, g1, e1, n1⟩ := Cond.arrayOver_spec (n := RX3) (hts (.arrayOver (.object RX3)) (by decide +kernel))
  obtain ⟨q2, a2, k2, f2, _, g2, e2, n2⟩ := Cond.arrayOver_spec (n := RX5) (hts (.arrayOver (.object RX5)) (by decide +kernel))
  obtain ⟨q3, a3, k3, f3, _, g3, e3, n3⟩ := Cond.arrayOver_spec (n := RX4) (hts (.arrayOver (.object RX4)) (by decide +kernel))
  obtain ⟨q4, a4, k4, f4, _, g4, e4, n4⟩ := Cond.arrayOver_spec (n := RX1) (hts (.arrayOver (.object RX1)) (by decide +kernel))
  obtain ⟨a5, k5, p5, f5, g5, e5⟩ := Cond.arrayClass_spec (hts (.arrayClass .long) (by decide +kernel))
  have hn : ∀ q ∈ ke_n, Cond.methodLinkNest q.1 q.2.1 q.2.2.1 q.2.2.2 ∈ lw_tbl := by decide +kernel
  have ho : ∀ C ∈ [RX1, RX3, RX4, RX5], Cond.arrayOver (.object C) ∈ lw_tbl := by decide +kernel
  refine ⟨((fun k => match k with | 0 => c0 | 1 => c1 | 2 => c2 | 3 => c3 | 4 => c4 | 5 => c5 | 6 => c6 | _ => c7, fun k => match k with | 0 => i0 | 1 => i1 | 2 => i2 | 3 => i3 | 4 => i4 | 5 => i5 | 6 => i6 | _ => i7), fun t => match t with | 0 => a0 | 1 => a1 | 2 => a2 | 3 => a3 | 4 => a4 | _ => a5), ⟨?_, ?_⟩, fun q hq => va_Nw.of rfl (hts _ (hn q hq)), fun C hC => va_AO.of (hts _ (ho C hC))⟩
  · intro k q hq
    match k, hq with
    | 0, hq => cases hq; exact h0
    | 1, hq => cases hq; exact h1
    | 2, hq => cases hq; exact h2
    | 3, hq => cases hq; exact h3
    | 4, hq => cases hq; exact h4
    | 5, hq => cases hq; exact h5
    | 6, hq => cases hq; exact h6
    | 7, hq => cases hq; exact h7
    | k + 8, hq => simp [vwCl] at hq
  · intro k q hq
    match k, hq with
    | 0, hq => cases hq; exact ⟨fun n z => ⟨fun k h => (by cases h), k0, g0, p0, e0⟩, f0⟩
    | 1, hq => cases hq; exact ⟨fun n z => ⟨fun k h => (by cases h), k1, g1, q1, e1⟩, ⟨k1, q1, g1, e1, f1, n1⟩⟩
    | 2, hq => cases hq; exact ⟨fun n z => ⟨fun k h => (by cases h), k2, g2, q2, e2⟩, ⟨k2, q2, g2, e2, f2, n2⟩⟩
    | 3, hq => cases hq; exact ⟨fun n z => ⟨fun k h => (by cases h), k3, g3, q3, e3⟩, ⟨k3, q3, g3, e3, f3, n3⟩⟩
    | 4, hq => cases hq; exact ⟨fun n z => ⟨fun k h => (by cases h), k4, g4, q4, e4⟩, ⟨k4, q4, g4, e4, f4, n4⟩⟩
    | 5, hq => cases hq; exact ⟨fun n z => ⟨fun k h => (by cases h), k5, g5, p5, e5⟩, f5⟩
    | k + 6, hq => simp [ke_T] at hq
theorem kx_start {A : Array Value} {s : State} {E : ke_E} {o : Nat} (hts : ∀ w ∈ lw_tbl, w.before A s = true) (hK : ke E s) (hgv : (Jvm.Cond.and given_1 narrow_1).before A s = true) (ho : s.heap.size = o) : kxs s ∧ kxh (nb o) s s.heap := by
  have hs := flat_of_before _ hgv
  have hcur : s.vm.findClass "ReturnGrades" = some (E.1.1 6) := (hK.1.1 6 (RX6, TX6, 4) rfl).2.1
  have h1 : ∀ q ∈ kx_S, Cond.stringRef RX6 q.1 q.2 ∈ lw_tbl := by decide +kernel
  have h2 : ∀ X ∈ kx_X, Cond.castable X X ∈ lw_tbl := by decide +kernel
  have h4 : ∀ Y ∈ kx_D, Cond.declares (Bundle.initS Y) ∈ lw_tbl := by decide +kernel
  have hA : ∀ a : Nat, a < s.heap.size → ¬ nb o a := fun a ha => by show ¬ o ≤ a; omega
  have hini := hts (.initialized Bundle.tN) (by decide +kernel)
  refine ⟨⟨fun q hq => ?_, fun X hX => va_Nw.of rfl (hts _ (h2 X hX)), fun X hX Y hY ne => ?_, fun Y hY => va_Nw.of rfl (hts _ (h4 Y hY))⟩, ?_, ?_⟩
  · have hw := hts _ (h1 q hq)
    obtain ⟨_, _, _, a, _, _, _, _, _, hev⟩ := Cond.stringRef_spec hcur hw
    exact ⟨a, vk_R.of hw hev⟩
  · simp only [kx_X, List.mem_cons, List.not_mem_nil, or_false] at hX hY
    rcases hX with rfl | rfl | rfl <;> rcases hY with rfl | rfl | rfl <;> first | exact absurd rfl ne | exact va_Nc.of (hs _ (by decide +kernel))
  · exact vx_Zqof (hts _ (by decide +kernel)) hini (hs _ (by decide +kernel)) hA
  · exact vx_Zqof (hts _ (by decide +kernel)) hini (hs _ (by decide +kernel)) hA
section ST
variable {p : Program} {l : Launch} {e : Env} {R : Room} {s : State} {m : MethodId} {args : Array Value} {below : List Frame} {meth : Method} {c : Code} {H : Heap} {locs : List Loc} {cells slots : Nat} {Q : State → Prop}
variable {cc : ByteArray} {pc : Nat} {ls : Array Slot} {rest : List Value} {E : ke_E} {A : Nat → Prop} {H0 : Heap}
theorem k_newl {q : Nat} (hx : p.tables.exec = Jvm.exec) (hb : c.code = cc) (harr : (Cond.arrayClass .long).before args s = true) (hK : ke E s) (hS : va_S A H0 H locs) (hcells : cells + 1 ≤ R.cells) (hslots : slots + 1 ≤ R.slots) (hq : H.size = q) (hdg : decode cc pc = .ok (.newarray .long, 2))
    (kk : ∀ (H1 : Heap), la E q 0 H1 → H1.size = q + 1 → (∀ x : Nat, x < q → H1[x]? = H[x]?) → va_S A H0 H1 locs → W p l e R s m args below meth c H1 locs (cells + 1) (slots + 1) Q (F0 m (pc + 2) ls (.ref q :: rest))) : W p l e R s m args below meth c H locs cells slots Q (F0 m pc ls (.int (nI 1) :: rest)) := by
  subst hq
  refine va_newaK (atype := .long) hx hb harr rfl hdg rfl (by decide) (by decide) (show 1 * 8 ≤ 536870912 by omega) hcells hslots rfl fun H1 cA e1 z1 o1 hAr hNm => ?_
  have hk := (hK.1.2 5 (E.2 5, .long) rfl).2
  have e9 : cA = E.2 5 := Option.some.inj (hNm.symm.trans hk)
  subst e9
  refine kk H1 ?_ z1 o1 ⟨Nat.le_trans hS.1 (by omega), fun x h1 h2 => (o1 x (Nat.lt_of_lt_of_le h1 hS.1)).trans (hS.2.1 x h1 h2), hS.2.2⟩
  show H1[H.size]? = some (vp_cell _ _)
  rw [vp_cell_l]
  exact e1
end ST
theorem lw_le9 {L i : Nat} (hL : L ≤ 2048) (hi : i ≤ L) : (nI L - nI 4 < nI i) ↔ L < i + 4 := by
  rw [Int32.lt_iff_toInt_lt, nI_toInt (by omega)]
  by_cases c : 4 ≤ L
  · rw [pk_sub c, nI_toInt (by omega)]
    omega
  · have e : (nI L - nI 4).toInt = (L : Int) - 4 := (by decide +kernel : ∀ L : Nat, L < 4 → (nI L - nI 4).toInt = (L : Int) - 4) L (by omega)
    rw [e]
    omega
