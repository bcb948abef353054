/-! ===== the history ===== -/
def hsl (h : Nat) (P : Nat → Nat) : Prop := ∀ k, k < 6 → ∃ i, i < 6 ∧ P k = h + 59*i + 2
def hinj (P : Nat → Nat) : Prop := ∀ i j, i < 6 → j < 6 → P i = P j → i = j
def updN {α : Type} (f : Nat → α) (i : Nat) (v : α) : Nat → α := fun j => if j = i then v else f j
def rot {α : Type} (f : Nat → α) : Nat → α := fun k => if k < 5 then f (k + 1) else f 0
def hs (E : ke_E) (h : Nat) (P : Nat → Nat) (n : Nat) (g : Nat → Nat → Int32) (H : Heap) : Prop := hsl h P ∧ va_at E.1 vwCl (h, .inr (2, [.ref (h + 1), .int (nI n)])) H ∧ va_at E.1 vwCl (h + 1, .inl (E.2 4, rfs 6 P)) H ∧ ∀ k, k < 6 → dz E (P k) (g k) H
theorem hs_fr2 {E : ke_E} {h n : Nat} {P : Nat → Nat} {g : Nat → Nat → Int32} {H H1 : Heap} (k : hs E h P n g H) (hq : ∀ q : Nat, q < H.size → bl h 356 q → H1[q]? = H[q]?) : hs E h P n g H1 := by
  obtain ⟨k1, k2, k3, k4⟩ := k
  have hl : h + 1 < H.size := k3.lt
  exact ⟨k1, k2.kept (hq _ (by simp; omega) ⟨by simp, by simp⟩), k3.kept (hq _ (by simp; omega) ⟨by simp, by simp⟩), fun i hi => by
    obtain ⟨j, hj, e⟩ := k1 i hi
    exact dz_fr2 (k4 i hi) (fun q h1 h2 => hq q h1 (bl_sub h2 (by omega)))⟩
theorem hs_cg {E : ke_E} {h n : Nat} {P P' : Nat → Nat} {g g' : Nat → Nat → Int32} {H : Heap} (k : hs E h P n g H) (hP : ∀ k, k < 6 → P' k = P k) (hg : ∀ k, k < 6 → g' k = g k) : hs E h P' n g' H := by
  obtain ⟨k1, k2, k3, k4⟩ := k
  refine ⟨fun i hi => by rw [hP i hi]; exact k1 i hi, k2, ?_, fun i hi => by rw [hP i hi, hg i hi]; exact k4 i hi⟩
  show H[h + 1]? = _
  refine k3.trans (congrArg some ?_)
  rw [vp_cell_q, vp_cell_q]
  unfold arrV
  congr 1
  apply Array.ext
  · simp
  · intro i h1 h2
    have hi : i < 6 := by simpa using h1
    simp [hP i hi]
theorem va_up_N {f : Nat → Nat} {i v : Nat} : va_up (fun k => some (f k)) i (some v) = fun k => some (updN f i v k) := by
  funext j
  unfold va_up updN
  by_cases e : j = i
  · simp [e]
  · simp [e]
/-- another desk copied into the k-th state -/
theorem hs_cp {E : ke_E} {h n k : Nat} {P : Nat → Nat} {g : Nat → Nat → Int32} {r : Nat → Int32} {H H1 : Heap} (a : hs E h P n g H) (hi : hinj P) (hk : k < 6) (hQ : dz E (P k) r H1) (hf : ∀ q : Nat, q < H.size → ¬ bl (P k) 59 q → H1[q]? = H[q]?) : hs E h P n (updN g k r) H1 := by
  obtain ⟨k1, k2, k3, k4⟩ := a
  have hl : h + 1 < H.size := k3.lt
  obtain ⟨i0, hi0, e0⟩ := k1 k hk
  refine ⟨k1, k2.kept (hf _ (by simp; omega) (fun q => by have := q.1; simp at this; omega)), k3.kept (hf _ (by simp; omega) (fun q => by have := q.1; simp at this; omega)), fun i hi9 => ?_⟩
  unfold updN
  by_cases e : i = k
  · rw [if_pos e, e]; exact hQ
  · rw [if_neg e]
    obtain ⟨j, hj, e1⟩ := k1 i hi9
    have : j ≠ i0 := fun q => e (hi i k hi9 hk (by rw [e1, e0, q]))
    exact dz_fr2 (k4 i hi9) (fun q h1 h2 => hf q h1 (bl_ne h2 (by omega)))
section HS
variable {p : Program} {l : Launch} {e : Env} {R : Room} {s : State} {m : MethodId} {args : Array Value} {below : List Frame} {meth : Method} {c : Code} {H : Heap} {locs : List Loc} {cells slots : Nat} {Q : State → Prop}
variable {cc : ByteArray} {pc nL : Nat} {ls : Array Slot} {rest : List Value} {E : ke_E} {Ts : List Cond} {own : String} {A : Nat → Prop} {H0 : Heap}
variable {h n n' : Nat} {P : Nat → Nat} {g : Nat → Nat → Int32}
theorem hs_put {index : Nat} (S : CallFix p m c cc nL s args Ts own) (hK : ke E s) (hB : hs E h P n g H) (hin : ∀ w ∈ wsX20, w ∈ Ts) (hlink : Cond.fieldLink own index RX2 (TX2 1).2.1 (TX2 1).2.2.1 ∈ Ts) (hS : va_S A H0 H locs) (hA : ∀ q, bl h 2 q → A q) (hdg : decode cc pc = .ok (.putfield index, 3))
    (kk : ∀ (H1 : Heap) (locs1 : List Loc), hs E h P n' g H1 → H1.size = H.size → (∀ q : Nat, ¬ bl h 2 q → H1[q]? = H[q]?) → va_S A H0 H1 locs1 → W p l e R s m args below meth c H1 locs1 cells slots Q (F0 m (pc + 3) ls rest)) : W p l e R s m args below meth c H locs cells slots Q (F0 m pc ls (.int (nI n') :: .ref h :: rest)) := by
  obtain ⟨k1, k2, k3, k4⟩ := hB
  refine k_put S hK k2 rfl hin tyX2_ok nmX2 1 (by decide) hlink rfl rfl rfl rfl (by simp) hS (hA _ ⟨by omega, by omega⟩) hdg fun H1 locs1 e0 e1 e2 e3 => ?_
  refine kk H1 locs1 ⟨k1, e0, k3.kept (e2 _ (by simp)), fun i hi => ?_⟩ e1 (fun q hq => e2 q (fun h => hq (by subst h; exact ⟨by omega, by omega⟩))) e3
  obtain ⟨j, hj, e⟩ := k1 i hi
  exact dz_fr (k4 i hi) (fun q h1 => e2 q (by have := h1.1; omega))
theorem hs_ast {i v : Nat} {r : Nat → Int32} (hx : p.tables.exec = Jvm.exec) (hb : c.code = cc) (hK : ke E s) (hB : hs E h P n g H) (hi : i < 6) (hv : dz E v r H) (hv2 : ∃ j, j < 6 ∧ v = h + 59*j + 2) (hS : va_S A H0 H locs) (hA : ∀ q, bl h 2 q → A q) (hdg : decode cc pc = .ok (.aastore, 1))
    (kk : ∀ (H1 : Heap) (locs1 : List Loc), hs E h (updN P i v) n (updN g i r) H1 → H1.size = H.size → (∀ q : Nat, ¬ bl h 2 q → H1[q]? = H[q]?) → va_S A H0 H1 locs1 → W p l e R s m args below meth c H1 locs1 cells slots Q (F0 m (pc + 1) ls rest)) : W p l e R s m args below meth c H locs cells slots Q (F0 m pc ls (.ref v :: .int (nI i) :: .ref (h + 1) :: rest)) := by
  obtain ⟨k1, k2, k3, k4⟩ := hB
  refine k_aast (t := 4) hx hb hK k3 rfl (dz_d hv) rfl hi (by decide) hS (hA _ ⟨by omega, by omega⟩) hdg fun H1 locs1 e0 e1 e2 e3 => ?_
  rw [va_up_N] at e0
  refine kk H1 locs1 ⟨fun k hk => ?_, k2.kept (e2 _ (by simp)), e0, fun k hk => ?_⟩ e1 (fun q hq => e2 q (fun h => hq (by subst h; exact ⟨by omega, by omega⟩))) e3
  · unfold updN
    by_cases e : k = i
    · rw [if_pos e]; exact hv2
    · rw [if_neg e]; exact k1 k hk
  · unfold updN
    by_cases e : k = i
    · rw [if_pos e, if_pos e]
      obtain ⟨j, hj, e5⟩ := hv2
      exact dz_fr hv (fun q h1 => e2 q (by have := h1.1; omega))
    · rw [if_neg e, if_neg e]
      obtain ⟨j, hj, e5⟩ := k1 k hk
      exact dz_fr (k4 k hk) (fun q h1 => e2 q (by have := h1.1; omega))
end HS
theorem rot_inj {P : Nat → Nat} (h : hinj P) : hinj (rot P) := by
  intro i j hi hj e
  unfold rot at e
  by_cases a : i < 5
  · by_cases b : j < 5
    · rw [if_pos a, if_pos b] at e
      have := h _ _ (by omega) (by omega) e
      omega
    · rw [if_pos a, if_neg b] at e
      have := h _ _ (by omega) (by omega) e
      omega
  · by_cases b : j < 5
    · rw [if_neg a, if_pos b] at e
      have := h _ _ (by omega) (by omega) e
      omega
    · omega
theorem rot_N {α : Type} {f : Nat → α} : ∀ k, k < 6 → rot f k = updN (updN (updN (updN (updN (updN f 0 (f 1)) 1 (f 2)) 2 (f 3)) 3 (f 4)) 4 (f 5)) 5 (f 0) k := by
  intro k hk
  rcases (by omega : k = 0 ∨ k = 1 ∨ k = 2 ∨ k = 3 ∨ k = 4 ∨ k = 5) with e | e | e | e | e | e <;> subst e <;> rfl
def rm_X2_dropOldest : Room := { frames := 0, cells := 0, slots := 0, locals := 0 }
theorem hd_X2_dropOldest : k_hd1 yX2_dropOldest RX2 0 := by decide +kernel
set_option maxHeartbeats 4000000 in
set_option maxRecDepth 100000 in
theorem c_X2_dropOldest (l : Launch) (E : ke_E) (h0 : Nat) (P : Nat → Nat) (g : Nat → Nat → Int32) : Met l yX2_dropOldest wsX2_dropOldest rm_X2_dropOldest (kp E [.ref h0] (hs E h0 P 6 g)) (qm none (bl h0 356) (hs E h0 (rot P) 5 (rot g))) 0 0 (bl h0 356) := by
  refine k_hd (cc := cX2_dropOldest) (maxL := 3) (ret := none) (by decide) rfl (Nat.le_of_ble_eq_true rfl) ?_
  intro p e s m below meth c ls S hr hlk hnm hK hP hl
  have hx := S.1
  have hb := S.2.1
  have hts := S.2.2.2.2
  have hP : hs E h0 P 6 g s.heap := hP
  have hl : lv_has ls 3 [(0, .ref h0)] := hl
  have hS : va_S (bl h0 356) s.heap s.heap [] := va_S.rf
  refine lv_aload_n hx hb dX2_dropOldest_0 rfl (lv_at hl 0 rfl) ?_
  refine k_get S hK hP.2.1 rfl (fun _ h => List.mem_cons_of_mem _ (List.mem_append_right _ (h))) 0 (by decide) (List.mem_cons_of_mem _ (List.mem_append_left _ (List.mem_of_getElem? (i := 0) rfl))) rfl (v := .ref (h0 + 1)) rfl dX2_dropOldest_1 ?_
  refine lv_iconst (v := nI 0) hx hb dX2_dropOldest_4 (by decide) ?_
  refine k_aald hx hb hK (t := 4) rfl hP.2.2.1 (by omega) (by decide) (v := P 0) rfl dX2_dropOldest_5 ?_
  have hQ0 := hP.2.2.2 0 (by omega)
  have hs0 := hP.1 0 (by omega)
  have hs1 : h0 + 2 ≤ P 0 := by obtain ⟨j, hj, e9⟩ := hs0; omega
  refine lv_astore_n (lv' := [(1, .ref (P 0)), (0, .ref h0)]) hx hb dX2_dropOldest_6 rfl hl (by decide) rfl (fun ls hl => ?_)
  refine lv_iconst (v := nI 0) hx hb dX2_dropOldest_7 (by decide) ?_
  refine lv_istore_n (lv' := [(2, .int (nI 0)), (1, .ref (P 0)), (0, .ref h0)]) hx hb dX2_dropOldest_8 rfl hl (by decide) rfl (fun ls hl => ?_)
  refine lv_iload_n hx hb dX2_dropOldest_9 rfl (lv_at hl 0 rfl) ?_
  refine lv_iconst (v := nI 1) hx hb dX2_dropOldest_10 (by decide) ?_
  refine n_iadd (n := 1) hx hb dX2_dropOldest_11 (by omega) ?_
  refine lv_aload_n hx hb dX2_dropOldest_12 rfl (lv_at hl 2 rfl) ?_
  refine k_get S hK hP.2.1 rfl (fun _ h => List.mem_cons_of_mem _ (List.mem_append_right _ (h))) 0 (by decide) (List.mem_cons_of_mem _ (List.mem_append_left _ (List.mem_of_getElem? (i := 0) rfl))) rfl (v := .ref (h0 + 1)) rfl dX2_dropOldest_13 ?_
  refine k_alen hx hb hK (t := 4) rfl hP.2.2.1 dX2_dropOldest_16 ?_
  refine k_top (y := nI 6) rfl ?_
  refine n_ige (tgt := 40) hx hb dX2_dropOldest_17 (by decide) (by omega) (by omega) (fun h => absurd h (by decide)) (fun c17 => ?_)
  refine lv_aload_n hx hb dX2_dropOldest_20 rfl (lv_at hl 2 rfl) ?_
  refine k_get S hK hP.2.1 rfl (fun _ h => List.mem_cons_of_mem _ (List.mem_append_right _ (h))) 0 (by decide) (List.mem_cons_of_mem _ (List.mem_append_left _ (List.mem_of_getElem? (i := 0) rfl))) rfl (v := .ref (h0 + 1)) rfl dX2_dropOldest_21 ?_
  refine lv_iload_n hx hb dX2_dropOldest_24 rfl (lv_at hl 0 rfl) ?_
  refine lv_aload_n hx hb dX2_dropOldest_25 rfl (lv_at hl 2 rfl) ?_
  refine k_get S hK hP.2.1 rfl (fun _ h => List.mem_cons_of_mem _ (List.mem_append_right _ (h))) 0 (by decide) (List.mem_cons_of_mem _ (List.mem_append_left _ (List.mem_of_getElem? (i := 0) rfl))) rfl (v := .ref (h0 + 1)) rfl dX2_dropOldest_26 ?_
  refine lv_iload_n hx hb dX2_dropOldest_29 rfl (lv_at hl 0 rfl) ?_
  refine lv_iconst (v := nI 1) hx hb dX2_dropOldest_30 (by decide) ?_
  refine n_iadd (n := 1) hx hb dX2_dropOldest_31 (by omega) ?_
  refine k_aald hx hb hK (t := 4) rfl hP.2.2.1 (by omega) (by decide) (v := P 1) rfl dX2_dropOldest_32 ?_
  refine hs_ast (i := 0) (r := g 1) hx hb hK hP (by omega) (hP.2.2.2 1 (by omega)) (hP.1 1 (by omega)) hS (fun q h => bl_sub h (by omega)) dX2_dropOldest_33 (fun H locs hP zH fH hS => ?_)
  have hV1 := hP
  have hk1 := dz_fr2 hQ0 (fun q _ hq => fH q (bl_ne hq (by omega)))
  refine lv_iinc (v := nI 1) (lv' := [(2, .int (nI 1)), (1, .ref (P 0)), (0, .ref h0)]) hx hb dX2_dropOldest_34 hl (k := 0) rfl (by decide) (by decide) rfl (fun ls hl => ?_)
  refine lv_goto (tgt := 9) hx hb dX2_dropOldest_37 (by decide) ?_
  refine lv_iload_n hx hb dX2_dropOldest_9 rfl (lv_at hl 0 rfl) ?_
  refine lv_iconst (v := nI 1) hx hb dX2_dropOldest_10 (by decide) ?_
  refine n_iadd (n := 2) hx hb dX2_dropOldest_11 (by omega) ?_
  refine lv_aload_n hx hb dX2_dropOldest_12 rfl (lv_at hl 2 rfl) ?_
  refine k_get S hK hV1.2.1 rfl (fun _ h => List.mem_cons_of_mem _ (List.mem_append_right _ (h))) 0 (by decide) (List.mem_cons_of_mem _ (List.mem_append_left _ (List.mem_of_getElem? (i := 0) rfl))) rfl (v := .ref (h0 + 1)) rfl dX2_dropOldest_13 ?_
  refine k_alen hx hb hK (t := 4) rfl hV1.2.2.1 dX2_dropOldest_16 ?_
  refine k_top (y := nI 6) rfl ?_
  refine n_ige (tgt := 40) hx hb dX2_dropOldest_17 (by decide) (by omega) (by omega) (fun h => absurd h (by decide)) (fun c17_1 => ?_)
  refine lv_aload_n hx hb dX2_dropOldest_20 rfl (lv_at hl 2 rfl) ?_
  refine k_get S hK hV1.2.1 rfl (fun _ h => List.mem_cons_of_mem _ (List.mem_append_right _ (h))) 0 (by decide) (List.mem_cons_of_mem _ (List.mem_append_left _ (List.mem_of_getElem? (i := 0) rfl))) rfl (v := .ref (h0 + 1)) rfl dX2_dropOldest_21 ?_
  refine lv_iload_n hx hb dX2_dropOldest_24 rfl (lv_at hl 0 rfl) ?_
  refine lv_aload_n hx hb dX2_dropOldest_25 rfl (lv_at hl 2 rfl) ?_
  refine k_get S hK hV1.2.1 rfl (fun _ h => List.mem_cons_of_mem _ (List.mem_append_right _ (h))) 0 (by decide) (List.mem_cons_of_mem _ (List.mem_append_left _ (List.mem_of_getElem? (i := 0) rfl))) rfl (v := .ref (h0 + 1)) rfl dX2_dropOldest_26 ?_
  refine lv_iload_n hx hb dX2_dropOldest_29 rfl (lv_at hl 0 rfl) ?_
  refine lv_iconst (v := nI 1) hx hb dX2_dropOldest_30 (by decide) ?_
  refine n_iadd (n := 2) hx hb dX2_dropOldest_31 (by omega) ?_
  refine k_aald hx hb hK (t := 4) rfl hV1.2.2.1 (by omega) (by decide) (v := P 2) rfl dX2_dropOldest_32 ?_
  refine hs_ast (i := 1) (r := g 2) hx hb hK hV1 (by omega) (hV1.2.2.2 2 (by omega)) (hV1.1 2 (by omega)) hS (fun q h => bl_sub h (by omega)) dX2_dropOldest_33 (fun H locs hP zH fH hS => ?_)
  have hV2 := hP
  have hk1 := dz_fr2 hk1 (fun q _ hq => fH q (bl_ne hq (by omega)))
  refine lv_iinc (v := nI 2) (lv' := [(2, .int (nI 2)), (1, .ref (P 0)), (0, .ref h0)]) hx hb dX2_dropOldest_34 hl (k := 0) rfl (by decide) (by decide) rfl (fun ls hl => ?_)
  refine lv_goto (tgt := 9) hx hb dX2_dropOldest_37 (by decide) ?_
  refine lv_iload_n hx hb dX2_dropOldest_9 rfl (lv_at hl 0 rfl) ?_
  refine lv_iconst (v := nI 1) hx hb dX2_dropOldest_10 (by decide) ?_
  refine n_iadd (n := 3) hx hb dX2_dropOldest_11 (by omega) ?_
  refine lv_aload_n hx hb dX2_dropOldest_12 rfl (lv_at hl 2 rfl) ?_
  refine k_get S hK hV2.2.1 rfl (fun _ h => List.mem_cons_of_mem _ (List.mem_append_right _ (h))) 0 (by decide) (List.mem_cons_of_mem _ (List.mem_append_left _ (List.mem_of_getElem? (i := 0) rfl))) rfl (v := .ref (h0 + 1)) rfl dX2_dropOldest_13 ?_
  refine k_alen hx hb hK (t := 4) rfl hV2.2.2.1 dX2_dropOldest_16 ?_
  refine k_top (y := nI 6) rfl ?_
  refine n_ige (tgt := 40) hx hb dX2_dropOldest_17 (by decide) (by omega) (by omega) (fun h => absurd h (by decide)) (fun c17_2 => ?_)
  refine lv_aload_n hx hb dX2_dropOldest_20 rfl (lv_at hl 2 rfl) ?_
  refine k_get S hK hV2.2.1 rfl (fun _ h => List.mem_cons_of_mem _ (List.mem_append_right _ (h))) 0 (by decide) (List.mem_cons_of_mem _ (List.mem_append_left _ (List.mem_of_getElem? (i := 0) rfl))) rfl (v := .ref (h0 + 1)) rfl dX2_dropOldest_21 ?_
  refine lv_iload_n hx hb dX2_dropOldest_24 rfl (lv_at hl 0 rfl) ?_
  refine lv_aload_n hx hb dX2_dropOldest_25 rfl (lv_at hl 2 rfl) ?_
  refine k_get S hK hV2.2.1 rfl (fun _ h => List.mem_cons_of_mem _ (List.mem_append_right _ (h))) 0 (by decide) (List.mem_cons_of_mem _ (List.mem_append_left _ (List.mem_of_getElem? (i := 0) rfl))) rfl (v := .ref (h0 + 1)) rfl dX2_dropOldest_26 ?_
  refine lv_iload_n hx hb dX2_dropOldest_29 rfl (lv_at hl 0 rfl) ?_
  refine lv_iconst (v := nI 1) hx hb dX2_dropOldest_30 (by decide) ?_
  refine n_iadd (n := 3) hx hb dX2_dropOldest_31 (by omega) ?_
  refine k_aald hx hb hK (t := 4) rfl hV2.2.2.1 (by omega) (by decide) (v := P 3) rfl dX2_dropOldest_32 ?_
  refine hs_ast (i := 2) (r := g 3) hx hb hK hV2 (by omega) (hV2.2.2.2 3 (by omega)) (hV2.1 3 (by omega)) hS (fun q h => bl_sub h (by omega)) dX2_dropOldest_33 (fun H locs hP zH fH hS => ?_)
  have hV3 := hP
  have hk1 := dz_fr2 hk1 (fun q _ hq => fH q (bl_ne hq (by omega)))
  refine lv_iinc (v := nI 3) (lv' := [(2, .int (nI 3)), (1, .ref (P 0)), (0, .ref h0)]) hx hb dX2_dropOldest_34 hl (k := 0) rfl (by decide) (by decide) rfl (fun ls hl => ?_)
  refine lv_goto (tgt := 9) hx hb dX2_dropOldest_37 (by decide) ?_
  refine lv_iload_n hx hb dX2_dropOldest_9 rfl (lv_at hl 0 rfl) ?_
  refine lv_iconst (v := nI 1) hx hb dX2_dropOldest_10 (by decide) ?_
  refine n_iadd (n := 4) hx hb dX2_dropOldest_11 (by omega) ?_
  refine lv_aload_n hx hb dX2_dropOldest_12 rfl (lv_at hl 2 rfl) ?_
  refine k_get S hK hV3.2.1 rfl (fun _ h => List.mem_cons_of_mem _ (List.mem_append_right _ (h))) 0 (by decide) (List.mem_cons_of_mem _ (List.mem_append_left _ (List.mem_of_getElem? (i := 0) rfl))) rfl (v := .ref (h0 + 1)) rfl dX2_dropOldest_13 ?_
  refine k_alen hx hb hK (t := 4) rfl hV3.2.2.1 dX2_dropOldest_16 ?_
  refine k_top (y := nI 6) rfl ?_
  refine n_ige (tgt := 40) hx hb dX2_dropOldest_17 (by decide) (by omega) (by omega) (fun h => absurd h (by decide)) (fun c17_3 => ?_)
  refine lv_aload_n hx hb dX2_dropOldest_20 rfl (lv_at hl 2 rfl) ?_
  refine k_get S hK hV3.2.1 rfl (fun _ h => List.mem_cons_of_mem _ (List.mem_append_right _ (h))) 0 (by decide) (List.mem_cons_of_mem _ (List.mem_append_left _ (List.mem_of_getElem? (i := 0) rfl))) rfl (v := .ref (h0 + 1)) rfl dX2_dropOldest_21 ?_
  refine lv_iload_n hx hb dX2_dropOldest_24 rfl (lv_at hl 0 rfl) ?_
  refine lv_aload_n hx hb dX2_dropOldest_25 rfl (lv_at hl 2 rfl) ?_
  refine k_get S hK hV3.2.1 rfl (fun _ h => List.mem_cons_of_mem _ (List.mem_append_right _ (h))) 0 (by decide) (List.mem_cons_of_mem _ (List.mem_append_left _ (List.mem_of_getElem? (i := 0) rfl))) rfl (v := .ref (h0 + 1)) rfl dX2_dropOldest_26 ?_
  refine lv_iload_n hx hb dX2_dropOldest_29 rfl (lv_at hl 0 rfl) ?_
  refine lv_iconst (v := nI 1) hx hb dX2_dropOldest_30 (by decide) ?_
  refine n_iadd (n := 4) hx hb dX2_dropOldest_31 (by omega) ?_
  refine k_aald hx hb hK (t := 4) rfl hV3.2.2.1 (by omega) (by decide) (v := P 4) rfl dX2_dropOldest_32 ?_
  refine hs_ast (i := 3) (r := g 4) hx hb hK hV3 (by omega) (hV3.2.2.2 4 (by omega)) (hV3.1 4 (by omega)) hS (fun q h => bl_sub h (by omega)) dX2_dropOldest_33 (fun H locs hP zH fH hS => ?_)
  have hV4 := hP
  have hk1 := dz_fr2 hk1 (fun q _ hq => fH q (bl_ne hq (by omega)))
  refine lv_iinc (v := nI 4) (lv' := [(2, .int (nI 4)), (1, .ref (P 0)), (0, .ref h0)]) hx hb dX2_dropOldest_34 hl (k := 0) rfl (by decide) (by decide) rfl (fun ls hl => ?_)
  refine lv_goto (tgt := 9) hx hb dX2_dropOldest_37 (by decide) ?_
  refine lv_iload_n hx hb dX2_dropOldest_9 rfl (lv_at hl 0 rfl) ?_
  refine lv_iconst (v := nI 1) hx hb dX2_dropOldest_10 (by decide) ?_
  refine n_iadd (n := 5) hx hb dX2_dropOldest_11 (by omega) ?_
  refine lv_aload_n hx hb dX2_dropOldest_12 rfl (lv_at hl 2 rfl) ?_
  refine k_get S hK hV4.2.1 rfl (fun _ h => List.mem_cons_of_mem _ (List.mem_append_right _ (h))) 0 (by decide) (List.mem_cons_of_mem _ (List.mem_append_left _ (List.mem_of_getElem? (i := 0) rfl))) rfl (v := .ref (h0 + 1)) rfl dX2_dropOldest_13 ?_
  refine k_alen hx hb hK (t := 4) rfl hV4.2.2.1 dX2_dropOldest_16 ?_
  refine k_top (y := nI 6) rfl ?_
  refine n_ige (tgt := 40) hx hb dX2_dropOldest_17 (by decide) (by omega) (by omega) (fun h => absurd h (by decide)) (fun c17_4 => ?_)
  refine lv_aload_n hx hb dX2_dropOldest_20 rfl (lv_at hl 2 rfl) ?_
  refine k_get S hK hV4.2.1 rfl (fun _ h => List.mem_cons_of_mem _ (List.mem_append_right _ (h))) 0 (by decide) (List.mem_cons_of_mem _ (List.mem_append_left _ (List.mem_of_getElem? (i := 0) rfl))) rfl (v := .ref (h0 + 1)) rfl dX2_dropOldest_21 ?_
  refine lv_iload_n hx hb dX2_dropOldest_24 rfl (lv_at hl 0 rfl) ?_
  refine lv_aload_n hx hb dX2_dropOldest_25 rfl (lv_at hl 2 rfl) ?_
  refine k_get S hK hV4.2.1 rfl (fun _ h => List.mem_cons_of_mem _ (List.mem_append_right _ (h))) 0 (by decide) (List.mem_cons_of_mem _ (List.mem_append_left _ (List.mem_of_getElem? (i := 0) rfl))) rfl (v := .ref (h0 + 1)) rfl dX2_dropOldest_26 ?_
  refine lv_iload_n hx hb dX2_dropOldest_29 rfl (lv_at hl 0 rfl) ?_
  refine lv_iconst (v := nI 1) hx hb dX2_dropOldest_30 (by decide) ?_
  refine n_iadd (n := 5) hx hb dX2_dropOldest_31 (by omega) ?_
  refine k_aald hx hb hK (t := 4) rfl hV4.2.2.1 (by omega) (by decide) (v := P 5) rfl dX2_dropOldest_32 ?_
  refine hs_ast (i := 4) (r := g 5) hx hb hK hV4 (by omega) (hV4.2.2.2 5 (by omega)) (hV4.1 5 (by omega)) hS (fun q h => bl_sub h (by omega)) dX2_dropOldest_33 (fun H locs hP zH fH hS => ?_)
  have hV5 := hP
  have hk1 := dz_fr2 hk1 (fun q _ hq => fH q (bl_ne hq (by omega)))
  refine lv_iinc (v := nI 5) (lv' := [(2, .int (nI 5)), (1, .ref (P 0)), (0, .ref h0)]) hx hb dX2_dropOldest_34 hl (k := 0) rfl (by decide) (by decide) rfl (fun ls hl => ?_)
  refine lv_goto (tgt := 9) hx hb dX2_dropOldest_37 (by decide) ?_
  refine lv_iload_n hx hb dX2_dropOldest_9 rfl (lv_at hl 0 rfl) ?_
  refine lv_iconst (v := nI 1) hx hb dX2_dropOldest_10 (by decide) ?_
  refine n_iadd (n := 6) hx hb dX2_dropOldest_11 (by omega) ?_
  refine lv_aload_n hx hb dX2_dropOldest_12 rfl (lv_at hl 2 rfl) ?_
  refine k_get S hK hV5.2.1 rfl (fun _ h => List.mem_cons_of_mem _ (List.mem_append_right _ (h))) 0 (by decide) (List.mem_cons_of_mem _ (List.mem_append_left _ (List.mem_of_getElem? (i := 0) rfl))) rfl (v := .ref (h0 + 1)) rfl dX2_dropOldest_13 ?_
  refine k_alen hx hb hK (t := 4) rfl hV5.2.2.1 dX2_dropOldest_16 ?_
  refine k_top (y := nI 6) rfl ?_
  refine n_ige (tgt := 40) hx hb dX2_dropOldest_17 (by decide) (by omega) (by omega) (fun c17_5 => ?_) (fun h => absurd h (by decide))
  refine lv_aload_n hx hb dX2_dropOldest_40 rfl (lv_at hl 2 rfl) ?_
  refine k_get S hK hV5.2.1 rfl (fun _ h => List.mem_cons_of_mem _ (List.mem_append_right _ (h))) 0 (by decide) (List.mem_cons_of_mem _ (List.mem_append_left _ (List.mem_of_getElem? (i := 0) rfl))) rfl (v := .ref (h0 + 1)) rfl dX2_dropOldest_41 ?_
  refine lv_aload_n hx hb dX2_dropOldest_44 rfl (lv_at hl 2 rfl) ?_
  refine k_get S hK hV5.2.1 rfl (fun _ h => List.mem_cons_of_mem _ (List.mem_append_right _ (h))) 0 (by decide) (List.mem_cons_of_mem _ (List.mem_append_left _ (List.mem_of_getElem? (i := 0) rfl))) rfl (v := .ref (h0 + 1)) rfl dX2_dropOldest_45 ?_
  refine k_alen hx hb hK (t := 4) rfl hV5.2.2.1 dX2_dropOldest_48 ?_
  refine k_top (y := nI 6) rfl ?_
  refine lv_iconst (v := nI 1) hx hb dX2_dropOldest_49 (by decide) ?_
  refine n_isub (n := 5) hx hb dX2_dropOldest_50 (by omega) ?_
  refine lv_aload_n hx hb dX2_dropOldest_51 rfl (lv_at hl 1 rfl) ?_
  refine hs_ast (i := 5) (r := g 0) hx hb hK hV5 (by omega) hk1 hs0 hS (fun q h => bl_sub h (by omega)) dX2_dropOldest_52 (fun H locs hP zH fH hS => ?_)
  have hV6 := hP
  have hk1 := dz_fr2 hk1 (fun q _ hq => fH q (bl_ne hq (by omega)))
  refine lv_aload_n hx hb dX2_dropOldest_53 rfl (lv_at hl 2 rfl) ?_
  refine lv_dup hx hb dX2_dropOldest_54 rfl ?_
  refine k_get S hK hV6.2.1 rfl (fun _ h => List.mem_cons_of_mem _ (List.mem_append_right _ (h))) 1 (by decide) (List.mem_cons_of_mem _ (List.mem_append_left _ (List.mem_of_getElem? (i := 1) rfl))) rfl (v := .int (nI 6)) rfl dX2_dropOldest_55 ?_
  refine lv_iconst (v := nI 1) hx hb dX2_dropOldest_58 (by decide) ?_
  refine n_isub (n := 5) hx hb dX2_dropOldest_59 (by omega) ?_
  refine hs_put (n' := 5) S hK hV6 (fun _ h => List.mem_cons_of_mem _ (List.mem_append_right _ (h))) (List.mem_cons_of_mem _ (List.mem_append_left _ (List.mem_of_getElem? (i := 1) rfl))) hS (fun q h => bl_sub h (by omega)) dX2_dropOldest_60 (fun H locs hP zH fH hS => ?_)
  have hV7 := hP
  have hk1 := dz_fr2 hk1 (fun q _ hq => fH q (bl_ne hq (by omega)))
  exact k_vretM hx hb hr hlk dX2_dropOldest_63 hS (show hs E h0 (rot P) 5 (rot g) _ from (hs_cg hV7 rot_N rot_N))
def rm_X2_save : Room := { frames := 3, cells := 0, slots := 0, locals := 65 }
theorem hd_X2_save : k_hd1 yX2_save RX2 1 := by decide +kernel
set_option maxHeartbeats 4000000 in
set_option maxRecDepth 100000 in
theorem c_X2_save_6 (l : Launch) (E : ke_E) (h0 : Nat) (P : Nat → Nat) (g : Nat → Nat → Int32) (d : Nat) (z : Nat → Int32) (hj : hinj P) (hdj : d + 59 ≤ h0 ∨ h0 + 356 ≤ d) (hI : iv z) : Met l yX2_save wsX2_save rm_X2_save (kp E [.ref h0, .ref d] (fun H => hs E h0 P 6 g H ∧ dz E d z H)) (qm none (bl h0 356) (hs E h0 (rot P) 6 (updN (rot g) 5 z))) 0 0 (bl h0 356) := by
  refine k_hd (cc := cX2_save) (maxL := 2) (ret := none) (by decide) rfl (Nat.le_of_ble_eq_true rfl) ?_
  intro p e s m below meth c ls S hr hlk hnm hK hP hl
  have hx := S.1
  have hb := S.2.1
  have hts := S.2.2.2.2
  obtain ⟨hP0, hP1⟩ := hP
  have hl : lv_has ls 2 [(0, .ref h0), (1, .ref d)] := hl
  have hS : va_S (bl h0 356) s.heap s.heap [] := va_S.rf
  refine lv_aload_n hx hb dX2_save_0 rfl (lv_at hl 0 rfl) ?_
  refine k_get S hK hP0.2.1 rfl (fun _ h => List.mem_cons_of_mem _ (List.mem_append_left _ (List.mem_append_left _ (List.mem_append_left _ (List.mem_append_left _ (List.mem_append_right _ (h))))))) 1 (by decide) (List.mem_cons_of_mem _ (List.mem_append_left _ (List.mem_append_left _ (List.mem_append_left _ (List.mem_append_left _ (List.mem_append_left _ (List.mem_append_left _ (List.mem_of_getElem? (i := 0) rfl)))))))) rfl (v := .int (nI 6)) rfl dX2_save_1 ?_
  refine lv_aload_n hx hb dX2_save_4 rfl (lv_at hl 0 rfl) ?_
  refine k_get S hK hP0.2.1 rfl (fun _ h => List.mem_cons_of_mem _ (List.mem_append_left _ (List.mem_append_left _ (List.mem_append_left _ (List.mem_append_left _ (List.mem_append_right _ (h))))))) 0 (by decide) (List.mem_cons_of_mem _ (List.mem_append_left _ (List.mem_append_left _ (List.mem_append_left _ (List.mem_append_left _ (List.mem_append_left _ (List.mem_append_left _ (List.mem_of_getElem? (i := 1) rfl)))))))) rfl (v := .ref (h0 + 1)) rfl dX2_save_5 ?_
  refine k_alen hx hb hK (t := 4) rfl hP0.2.2.1 dX2_save_8 ?_
  refine k_top (y := nI 6) rfl ?_
  refine n_ilt (tgt := 16) hx hb dX2_save_9 (by decide) (by omega) (by omega) (fun h => absurd h (by decide)) (fun c9 => ?_)
  refine lv_aload_n hx hb dX2_save_12 rfl (lv_at hl 0 rfl) ?_
  refine k_VM (As := []) (rest := []) S hK (c_X2_dropOldest l E h0 P g) gX2_save_X2_dropOldest rfl hd_X2_dropOldest ⟨rfl, rfl⟩ ⟨Nat.le_of_ble_eq_true rfl, Nat.le_of_ble_eq_true rfl⟩ (k_recv hK hP0.2.1 rfl) hP0 rfl hl.1 rfl (Nat.le_of_ble_eq_true rfl) dX2_save_13 ⟨Nat.le_of_ble_eq_true rfl, Nat.le_of_ble_eq_true rfl⟩ hS (fun q h => h) (fun q h => h) (fun H locs hQ zH fH hS => ?_)
  have hP := hQ
  have hV1 := hP
  have hk1 := dz_fr2 hP1 (fun q hz hq => fH q hz (bl_ne hq (by omega)))
  refine lv_aload_n hx hb dX2_save_16 rfl (lv_at hl 0 rfl) ?_
  refine k_get S hK hV1.2.1 rfl (fun _ h => List.mem_cons_of_mem _ (List.mem_append_left _ (List.mem_append_left _ (List.mem_append_left _ (List.mem_append_left _ (List.mem_append_right _ (h))))))) 1 (by decide) (List.mem_cons_of_mem _ (List.mem_append_left _ (List.mem_append_left _ (List.mem_append_left _ (List.mem_append_left _ (List.mem_append_left _ (List.mem_append_left _ (List.mem_of_getElem? (i := 0) rfl)))))))) rfl (v := .int (nI 5)) rfl dX2_save_17 ?_
  refine lv_aload_n hx hb dX2_save_20 rfl (lv_at hl 0 rfl) ?_
  refine k_get S hK hV1.2.1 rfl (fun _ h => List.mem_cons_of_mem _ (List.mem_append_left _ (List.mem_append_left _ (List.mem_append_left _ (List.mem_append_left _ (List.mem_append_right _ (h))))))) 0 (by decide) (List.mem_cons_of_mem _ (List.mem_append_left _ (List.mem_append_left _ (List.mem_append_left _ (List.mem_append_left _ (List.mem_append_left _ (List.mem_append_left _ (List.mem_of_getElem? (i := 1) rfl)))))))) rfl (v := .ref (h0 + 1)) rfl dX2_save_21 ?_
  refine k_alen hx hb hK (t := 4) rfl hV1.2.2.1 dX2_save_24 ?_
  refine k_top (y := nI 6) rfl ?_
  refine k_SN (q := (RX2, 25, yX6_isIndex, RX6)) (As := [.int (nI 5), .int (nI 6)]) (rest := []) S hK (List.mem_of_getElem? (i := 8) rfl) (c_X6_isIndex_n l E 5 6 (by omega) (by omega)) ggX2_save_X6_isIndex rfl hd_X6_isIndex (List.mem_cons_of_mem _ (List.mem_append_left _ (List.mem_append_left _ (List.mem_append_left _ (List.mem_append_left _ (List.mem_append_left _ (List.mem_append_left _ (List.mem_of_getElem? (i := 7) rfl)))))))) (List.mem_cons_of_mem _ (List.mem_append_left _ (List.mem_append_left _ (List.mem_append_left _ (List.mem_append_left _ (List.mem_append_left _ (List.mem_append_left _ (List.mem_of_getElem? (i := 8) rfl)))))))) ⟨rfl, rfl⟩ ⟨Nat.le_of_ble_eq_true rfl, Nat.le_of_ble_eq_true rfl⟩ trivial rfl hl.1 rfl (Nat.le_of_ble_eq_true rfl) dX2_save_25 ⟨Nat.le_of_ble_eq_true rfl, Nat.le_of_ble_eq_true rfl⟩ ?_
  refine b_eq (tgt := 54) hx hb dX2_save_28 (by decide) (fun h => absurd (by omega) h) (fun c28 => ?_)
  refine lv_aload_n hx hb dX2_save_31 rfl (lv_at hl 0 rfl) ?_
  refine k_get S hK hV1.2.1 rfl (fun _ h => List.mem_cons_of_mem _ (List.mem_append_left _ (List.mem_append_left _ (List.mem_append_left _ (List.mem_append_left _ (List.mem_append_right _ (h))))))) 0 (by decide) (List.mem_cons_of_mem _ (List.mem_append_left _ (List.mem_append_left _ (List.mem_append_left _ (List.mem_append_left _ (List.mem_append_left _ (List.mem_append_left _ (List.mem_of_getElem? (i := 1) rfl)))))))) rfl (v := .ref (h0 + 1)) rfl dX2_save_32 ?_
  refine lv_aload_n hx hb dX2_save_35 rfl (lv_at hl 0 rfl) ?_
  refine k_get S hK hV1.2.1 rfl (fun _ h => List.mem_cons_of_mem _ (List.mem_append_left _ (List.mem_append_left _ (List.mem_append_left _ (List.mem_append_left _ (List.mem_append_right _ (h))))))) 1 (by decide) (List.mem_cons_of_mem _ (List.mem_append_left _ (List.mem_append_left _ (List.mem_append_left _ (List.mem_append_left _ (List.mem_append_left _ (List.mem_append_left _ (List.mem_of_getElem? (i := 0) rfl)))))))) rfl (v := .int (nI 5)) rfl dX2_save_36 ?_
  refine k_aald hx hb hK (t := 4) rfl hV1.2.2.1 (by omega) (by decide) (v := (rot P) 5) rfl dX2_save_39 ?_
  refine lv_aload_n hx hb dX2_save_40 rfl (lv_at hl 1 rfl) ?_
  have hH9 := hV1
  have hn9 := hH9.2.2.2 5 (by omega)
  obtain ⟨i9, hi9, hi8⟩ := hH9.1 5 (by omega)
  refine k_VM (As := [.ref d]) (rest := []) S hK (c_X1_copyFrom l E ((rot P) 5) ((rot g) 5) d z (by omega) hI) gX2_save_X1_copyFrom rfl hd_X1_copyFrom ⟨rfl, rfl⟩ ⟨Nat.le_of_ble_eq_true rfl, Nat.le_of_ble_eq_true rfl⟩ (k_recv hK (dz_d hn9) rfl) ⟨hn9, hk1⟩ rfl hl.1 rfl (Nat.le_of_ble_eq_true rfl) dX2_save_41 ⟨Nat.le_of_ble_eq_true rfl, Nat.le_of_ble_eq_true rfl⟩ hS (fun q h => by exact ⟨by have := h.1; omega, by have := h.2; omega⟩) (fun q h => by exact ⟨by have := h.1; omega, by have := h.2; omega⟩) (fun H locs hQ zH fH hS => ?_)
  have hP := hQ
  have hV2 := hP
  have hk1 := dz_fr2 hk1 (fun q hz hq => fH q hz (bl_ne hq (by omega)))
  have hH := hs_cp hH9 (rot_inj hj) (k := 5) (by omega) hV2 fH
  refine lv_aload_n hx hb dX2_save_44 rfl (lv_at hl 0 rfl) ?_
  refine lv_dup hx hb dX2_save_45 rfl ?_
  refine k_get S hK hH.2.1 rfl (fun _ h => List.mem_cons_of_mem _ (List.mem_append_left _ (List.mem_append_left _ (List.mem_append_left _ (List.mem_append_left _ (List.mem_append_right _ (h))))))) 1 (by decide) (List.mem_cons_of_mem _ (List.mem_append_left _ (List.mem_append_left _ (List.mem_append_left _ (List.mem_append_left _ (List.mem_append_left _ (List.mem_append_left _ (List.mem_of_getElem? (i := 0) rfl)))))))) rfl (v := .int (nI 5)) rfl dX2_save_46 ?_
  refine lv_iconst (v := nI 1) hx hb dX2_save_49 (by decide) ?_
  refine n_iadd (n := 6) hx hb dX2_save_50 (by omega) ?_
  refine hs_put (n' := 6) S hK hH (fun _ h => List.mem_cons_of_mem _ (List.mem_append_left _ (List.mem_append_left _ (List.mem_append_left _ (List.mem_append_left _ (List.mem_append_right _ (h))))))) (List.mem_cons_of_mem _ (List.mem_append_left _ (List.mem_append_left _ (List.mem_append_left _ (List.mem_append_left _ (List.mem_append_left _ (List.mem_append_left _ (List.mem_of_getElem? (i := 0) rfl)))))))) hS (fun q h => bl_sub h (by omega)) dX2_save_51 (fun H locs hP zH fH hS => ?_)
  have hV3 := hP
  have hk1 := dz_fr2 hk1 (fun q _ hq => fH q (bl_ne hq (by omega)))
  exact k_vretM hx hb hr hlk dX2_save_54 hS hV3
set_option maxHeartbeats 4000000 in
set_option maxRecDepth 100000 in
theorem c_X2_save_n (l : Launch) (E : ke_E) (h0 : Nat) (P : Nat → Nat) (g : Nat → Nat → Int32) (d : Nat) (z : Nat → Int32) (n : Nat) (hj : hinj P) (hdj : d + 59 ≤ h0 ∨ h0 + 356 ≤ d) (hI : iv z) (hn6 : n < 6) : Met l yX2_save wsX2_save rm_X2_save (kp E [.ref h0, .ref d] (fun H => hs E h0 P n g H ∧ dz E d z H)) (qm none (bl h0 356) (hs E h0 P (n + 1) (updN g n z))) 0 0 (bl h0 356) := by
  refine k_hd (cc := cX2_save) (maxL := 2) (ret := none) (by decide) rfl (Nat.le_of_ble_eq_true rfl) ?_
  intro p e s m below meth c ls S hr hlk hnm hK hP hl
  have hx := S.1
  have hb := S.2.1
  have hts := S.2.2.2.2
  obtain ⟨hP0, hP1⟩ := hP
  have hl : lv_has ls 2 [(0, .ref h0), (1, .ref d)] := hl
  have hS : va_S (bl h0 356) s.heap s.heap [] := va_S.rf
  refine lv_aload_n hx hb dX2_save_0 rfl (lv_at hl 0 rfl) ?_
  refine k_get S hK hP0.2.1 rfl (fun _ h => List.mem_cons_of_mem _ (List.mem_append_left _ (List.mem_append_left _ (List.mem_append_left _ (List.mem_append_left _ (List.mem_append_right _ (h))))))) 1 (by decide) (List.mem_cons_of_mem _ (List.mem_append_left _ (List.mem_append_left _ (List.mem_append_left _ (List.mem_append_left _ (List.mem_append_left _ (List.mem_append_left _ (List.mem_of_getElem? (i := 0) rfl)))))))) rfl (v := .int (nI n)) rfl dX2_save_1 ?_
  refine lv_aload_n hx hb dX2_save_4 rfl (lv_at hl 0 rfl) ?_
  refine k_get S hK hP0.2.1 rfl (fun _ h => List.mem_cons_of_mem _ (List.mem_append_left _ (List.mem_append_left _ (List.mem_append_left _ (List.mem_append_left _ (List.mem_append_right _ (h))))))) 0 (by decide) (List.mem_cons_of_mem _ (List.mem_append_left _ (List.mem_append_left _ (List.mem_append_left _ (List.mem_append_left _ (List.mem_append_left _ (List.mem_append_left _ (List.mem_of_getElem? (i := 1) rfl)))))))) rfl (v := .ref (h0 + 1)) rfl dX2_save_5 ?_
  refine k_alen hx hb hK (t := 4) rfl hP0.2.2.1 dX2_save_8 ?_
  refine k_top (y := nI 6) rfl ?_
  refine n_ilt (tgt := 16) hx hb dX2_save_9 (by decide) (by omega) (by omega) (fun c9 => ?_) (fun h => absurd h (by omega))
  refine lv_aload_n hx hb dX2_save_16 rfl (lv_at hl 0 rfl) ?_
  refine k_get S hK hP0.2.1 rfl (fun _ h => List.mem_cons_of_mem _ (List.mem_append_left _ (List.mem_append_left _ (List.mem_append_left _ (List.mem_append_left _ (List.mem_append_right _ (h))))))) 1 (by decide) (List.mem_cons_of_mem _ (List.mem_append_left _ (List.mem_append_left _ (List.mem_append_left _ (List.mem_append_left _ (List.mem_append_left _ (List.mem_append_left _ (List.mem_of_getElem? (i := 0) rfl)))))))) rfl (v := .int (nI n)) rfl dX2_save_17 ?_
  refine lv_aload_n hx hb dX2_save_20 rfl (lv_at hl 0 rfl) ?_
  refine k_get S hK hP0.2.1 rfl (fun _ h => List.mem_cons_of_mem _ (List.mem_append_left _ (List.mem_append_left _ (List.mem_append_left _ (List.mem_append_left _ (List.mem_append_right _ (h))))))) 0 (by decide) (List.mem_cons_of_mem _ (List.mem_append_left _ (List.mem_append_left _ (List.mem_append_left _ (List.mem_append_left _ (List.mem_append_left _ (List.mem_append_left _ (List.mem_of_getElem? (i := 1) rfl)))))))) rfl (v := .ref (h0 + 1)) rfl dX2_save_21 ?_
  refine k_alen hx hb hK (t := 4) rfl hP0.2.2.1 dX2_save_24 ?_
  refine k_top (y := nI 6) rfl ?_
  refine k_SN (q := (RX2, 25, yX6_isIndex, RX6)) (As := [.int (nI n), .int (nI 6)]) (rest := []) S hK (List.mem_of_getElem? (i := 8) rfl) (c_X6_isIndex_n l E n 6 (by omega) (by omega)) ggX2_save_X6_isIndex rfl hd_X6_isIndex (List.mem_cons_of_mem _ (List.mem_append_left _ (List.mem_append_left _ (List.mem_append_left _ (List.mem_append_left _ (List.mem_append_left _ (List.mem_append_left _ (List.mem_of_getElem? (i := 7) rfl)))))))) (List.mem_cons_of_mem _ (List.mem_append_left _ (List.mem_append_left _ (List.mem_append_left _ (List.mem_append_left _ (List.mem_append_left _ (List.mem_append_left _ (List.mem_of_getElem? (i := 8) rfl)))))))) ⟨rfl, rfl⟩ ⟨Nat.le_of_ble_eq_true rfl, Nat.le_of_ble_eq_true rfl⟩ trivial rfl hl.1 rfl (Nat.le_of_ble_eq_true rfl) dX2_save_25 ⟨Nat.le_of_ble_eq_true rfl, Nat.le_of_ble_eq_true rfl⟩ ?_
  refine b_eq (tgt := 54) hx hb dX2_save_28 (by decide) (fun h => absurd c9 h) (fun c28 => ?_)
  refine lv_aload_n hx hb dX2_save_31 rfl (lv_at hl 0 rfl) ?_
  refine k_get S hK hP0.2.1 rfl (fun _ h => List.mem_cons_of_mem _ (List.mem_append_left _ (List.mem_append_left _ (List.mem_append_left _ (List.mem_append_left _ (List.mem_append_right _ (h))))))) 0 (by decide) (List.mem_cons_of_mem _ (List.mem_append_left _ (List.mem_append_left _ (List.mem_append_left _ (List.mem_append_left _ (List.mem_append_left _ (List.mem_append_left _ (List.mem_of_getElem? (i := 1) rfl)))))))) rfl (v := .ref (h0 + 1)) rfl dX2_save_32 ?_
  refine lv_aload_n hx hb dX2_save_35 rfl (lv_at hl 0 rfl) ?_
  refine k_get S hK hP0.2.1 rfl (fun _ h => List.mem_cons_of_mem _ (List.mem_append_left _ (List.mem_append_left _ (List.mem_append_left _ (List.mem_append_left _ (List.mem_append_right _ (h))))))) 1 (by decide) (List.mem_cons_of_mem _ (List.mem_append_left _ (List.mem_append_left _ (List.mem_append_left _ (List.mem_append_left _ (List.mem_append_left _ (List.mem_append_left _ (List.mem_of_getElem? (i := 0) rfl)))))))) rfl (v := .int (nI n)) rfl dX2_save_36 ?_
  refine k_aald hx hb hK (t := 4) rfl hP0.2.2.1 (by omega) (by decide) (v := P n) rfl dX2_save_39 ?_
  refine lv_aload_n hx hb dX2_save_40 rfl (lv_at hl 1 rfl) ?_
  have hH9 := hP0
  have hn9 := hH9.2.2.2 n (by omega)
  obtain ⟨i9, hi9, hi8⟩ := hH9.1 n (by omega)
  refine k_VM (As := [.ref d]) (rest := []) S hK (c_X1_copyFrom l E (P n) (g n) d z (by omega) hI) gX2_save_X1_copyFrom rfl hd_X1_copyFrom ⟨rfl, rfl⟩ ⟨Nat.le_of_ble_eq_true rfl, Nat.le_of_ble_eq_true rfl⟩ (k_recv hK (dz_d hn9) rfl) ⟨hn9, hP1⟩ rfl hl.1 rfl (Nat.le_of_ble_eq_true rfl) dX2_save_41 ⟨Nat.le_of_ble_eq_true rfl, Nat.le_of_ble_eq_true rfl⟩ hS (fun q h => by exact ⟨by have := h.1; omega, by have := h.2; omega⟩) (fun q h => by exact ⟨by have := h.1; omega, by have := h.2; omega⟩) (fun H locs hQ zH fH hS => ?_)
  have hP := hQ
  have hV1 := hP
  have hk1 := dz_fr2 hP1 (fun q hz hq => fH q hz (bl_ne hq (by omega)))
  have hH := hs_cp hH9 hj (k := n) (by omega) hV1 fH
  refine lv_aload_n hx hb dX2_save_44 rfl (lv_at hl 0 rfl) ?_
  refine lv_dup hx hb dX2_save_45 rfl ?_
  refine k_get S hK hH.2.1 rfl (fun _ h => List.mem_cons_of_mem _ (List.mem_append_left _ (List.mem_append_left _ (List.mem_append_left _ (List.mem_append_left _ (List.mem_append_right _ (h))))))) 1 (by decide) (List.mem_cons_of_mem _ (List.mem_append_left _ (List.mem_append_left _ (List.mem_append_left _ (List.mem_append_left _ (List.mem_append_left _ (List.mem_append_left _ (List.mem_of_getElem? (i := 0) rfl)))))))) rfl (v := .int (nI n)) rfl dX2_save_46 ?_
  refine lv_iconst (v := nI 1) hx hb dX2_save_49 (by decide) ?_
  refine n_iadd (n := n + 1) hx hb dX2_save_50 (by omega) ?_
  refine hs_put (n' := n + 1) S hK hH (fun _ h => List.mem_cons_of_mem _ (List.mem_append_left _ (List.mem_append_left _ (List.mem_append_left _ (List.mem_append_left _ (List.mem_append_right _ (h))))))) (List.mem_cons_of_mem _ (List.mem_append_left _ (List.mem_append_left _ (List.mem_append_left _ (List.mem_append_left _ (List.mem_append_left _ (List.mem_append_left _ (List.mem_of_getElem? (i := 0) rfl)))))))) hS (fun q h => bl_sub h (by omega)) dX2_save_51 (fun H locs hP zH fH hS => ?_)
  have hV2 := hP
  have hk1 := dz_fr2 hk1 (fun q _ hq => fH q (bl_ne hq (by omega)))
  exact k_vretM hx hb hr hlk dX2_save_54 hS hV2
def br (d h : Nat) : Nat → Prop := fun q => bl d 59 q ∨ bl h 356 q
def rm_X2_restore : Room := { frames := 3, cells := 0, slots := 0, locals := 65 }
theorem hd_X2_restore : k_hd1 yX2_restore RX2 1 := by decide +kernel
set_option maxHeartbeats 4000000 in
set_option maxRecDepth 100000 in
theorem c_X2_restore (l : Launch) (E : ke_E) (h0 : Nat) (P : Nat → Nat) (g : Nat → Nat → Int32) (d : Nat) (z : Nat → Int32) (k : Nat) (hdj : d + 59 ≤ h0 ∨ h0 + 356 ≤ d) (hI : iv (g k)) (hk6 : k < 6) : Met l yX2_restore wsX2_restore rm_X2_restore (kp E [.ref h0, .ref d] (fun H => hs E h0 P (k + 1) g H ∧ dz E d z H)) (qm none (br d h0) (fun H => hs E h0 P k g H ∧ dz E d (g k) H)) 0 0 (br d h0) := by
  refine k_hd (cc := cX2_restore) (maxL := 3) (ret := none) (by decide) rfl (Nat.le_of_ble_eq_true rfl) ?_
  intro p e s m below meth c ls S hr hlk hnm hK hP hl
  have hx := S.1
  have hb := S.2.1
  have hts := S.2.2.2.2
  obtain ⟨hP0, hP1⟩ := hP
  have hl : lv_has ls 3 [(0, .ref h0), (1, .ref d)] := hl
  have hS : va_S (br d h0) s.heap s.heap [] := va_S.rf
  refine lv_aload_n hx hb dX2_restore_0 rfl (lv_at hl 0 rfl) ?_
  refine k_get S hK hP0.2.1 rfl (fun _ h => List.mem_cons_of_mem _ (List.mem_append_left _ (List.mem_append_left _ (List.mem_append_left _ (List.mem_append_left _ (List.mem_append_right _ (h))))))) 1 (by decide) (List.mem_cons_of_mem _ (List.mem_append_left _ (List.mem_append_left _ (List.mem_append_left _ (List.mem_append_left _ (List.mem_append_left _ (List.mem_append_left _ (List.mem_of_getElem? (i := 0) rfl)))))))) rfl (v := .int (nI (k + 1))) rfl dX2_restore_1 ?_
  refine lv_iconst (v := nI 1) hx hb dX2_restore_4 (by decide) ?_
  refine n_isub (n := k) hx hb dX2_restore_5 (by omega) ?_
  refine lv_istore_n (lv' := [(2, .int (nI k)), (0, .ref h0), (1, .ref d)]) hx hb dX2_restore_6 rfl hl (by decide) rfl (fun ls hl => ?_)
  refine lv_iload_n hx hb dX2_restore_7 rfl (lv_at hl 0 rfl) ?_
  refine lv_aload_n hx hb dX2_restore_8 rfl (lv_at hl 1 rfl) ?_
  refine k_get S hK hP0.2.1 rfl (fun _ h => List.mem_cons_of_mem _ (List.mem_append_left _ (List.mem_append_left _ (List.mem_append_left _ (List.mem_append_left _ (List.mem_append_right _ (h))))))) 0 (by decide) (List.mem_cons_of_mem _ (List.mem_append_left _ (List.mem_append_left _ (List.mem_append_left _ (List.mem_append_left _ (List.mem_append_left _ (List.mem_append_left _ (List.mem_of_getElem? (i := 1) rfl)))))))) rfl (v := .ref (h0 + 1)) rfl dX2_restore_9 ?_
  refine k_alen hx hb hK (t := 4) rfl hP0.2.2.1 dX2_restore_12 ?_
  refine k_top (y := nI 6) rfl ?_
  refine k_SN (q := (RX2, 25, yX6_isIndex, RX6)) (As := [.int (nI k), .int (nI 6)]) (rest := []) S hK (List.mem_of_getElem? (i := 8) rfl) (c_X6_isIndex_n l E k 6 (by omega) (by omega)) ggX2_restore_X6_isIndex rfl hd_X6_isIndex (List.mem_cons_of_mem _ (List.mem_append_left _ (List.mem_append_left _ (List.mem_append_left _ (List.mem_append_left _ (List.mem_append_left _ (List.mem_append_left _ (List.mem_of_getElem? (i := 2) rfl)))))))) (List.mem_cons_of_mem _ (List.mem_append_left _ (List.mem_append_left _ (List.mem_append_left _ (List.mem_append_left _ (List.mem_append_left _ (List.mem_append_left _ (List.mem_of_getElem? (i := 3) rfl)))))))) ⟨rfl, rfl⟩ ⟨Nat.le_of_ble_eq_true rfl, Nat.le_of_ble_eq_true rfl⟩ trivial rfl hl.1 rfl (Nat.le_of_ble_eq_true rfl) dX2_restore_13 ⟨Nat.le_of_ble_eq_true rfl, Nat.le_of_ble_eq_true rfl⟩ ?_
  refine b_eq (tgt := 34) hx hb dX2_restore_16 (by decide) (fun h => absurd hk6 h) (fun c16 => ?_)
  refine lv_aload_n hx hb dX2_restore_19 rfl (lv_at hl 2 rfl) ?_
  refine lv_aload_n hx hb dX2_restore_20 rfl (lv_at hl 1 rfl) ?_
  refine k_get S hK hP0.2.1 rfl (fun _ h => List.mem_cons_of_mem _ (List.mem_append_left _ (List.mem_append_left _ (List.mem_append_left _ (List.mem_append_left _ (List.mem_append_right _ (h))))))) 0 (by decide) (List.mem_cons_of_mem _ (List.mem_append_left _ (List.mem_append_left _ (List.mem_append_left _ (List.mem_append_left _ (List.mem_append_left _ (List.mem_append_left _ (List.mem_of_getElem? (i := 1) rfl)))))))) rfl (v := .ref (h0 + 1)) rfl dX2_restore_21 ?_
  refine lv_iload_n hx hb dX2_restore_24 rfl (lv_at hl 0 rfl) ?_
  refine k_aald hx hb hK (t := 4) rfl hP0.2.2.1 (by omega) (by decide) (v := P k) rfl dX2_restore_25 ?_
  have hn9 := hP0.2.2.2 k (by omega)
  obtain ⟨i9, hi9, hi8⟩ := hP0.1 k (by omega)
  refine k_VM (As := [.ref (P k)]) (rest := []) S hK (c_X1_copyFrom l E d z (P k) (g k) (by omega) hI) gX2_restore_X1_copyFrom rfl hd_X1_copyFrom ⟨rfl, rfl⟩ ⟨Nat.le_of_ble_eq_true rfl, Nat.le_of_ble_eq_true rfl⟩ (k_recv hK (dz_d hP1) rfl) ⟨hP1, hn9⟩ rfl hl.1 rfl (Nat.le_of_ble_eq_true rfl) dX2_restore_26 ⟨Nat.le_of_ble_eq_true rfl, Nat.le_of_ble_eq_true rfl⟩ hS (fun q h => Or.inl h) (fun q h => Or.inl h) (fun H locs hQ zH fH hS => ?_)
  have hP := hQ
  have hV1 := hP
  have hk0 := hs_fr2 hP0 (fun q hz hq => fH q hz (bl_ne hq (by omega)))
  have hk1 := dz_fr2 hn9 (fun q hz hq => fH q hz (bl_ne hq (by omega)))
  refine lv_aload_n hx hb dX2_restore_29 rfl (lv_at hl 1 rfl) ?_
  refine lv_iload_n hx hb dX2_restore_30 rfl (lv_at hl 0 rfl) ?_
  refine hs_put (n' := k) S hK hk0 (fun _ h => List.mem_cons_of_mem _ (List.mem_append_left _ (List.mem_append_left _ (List.mem_append_left _ (List.mem_append_left _ (List.mem_append_right _ (h))))))) (List.mem_cons_of_mem _ (List.mem_append_left _ (List.mem_append_left _ (List.mem_append_left _ (List.mem_append_left _ (List.mem_append_left _ (List.mem_append_left _ (List.mem_of_getElem? (i := 0) rfl)))))))) hS (fun q h => Or.inr (bl_sub h (by omega))) dX2_restore_31 (fun H locs hP zH fH hS => ?_)
  have hV2 := hP
  have hk1 := dz_fr2 hV1 (fun q _ hq => fH q (bl_ne hq (by omega)))
  exact k_vretM hx hb hr hlk dX2_restore_34 hS ⟨hV2, (show dz E d (g k) _ from hk1)⟩
