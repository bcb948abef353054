/-! ===== the class's own object; the history by its rows ===== -/
def gg (E : ke_E) (o : Nat) (H : Heap) : Prop := va_at E.1 vwCl (o, .inr (6, [.ref (o + 1), .ref (o + 60), .ref (o + 119), .ref (o + 475)])) H
theorem gg_fr2 {E : ke_E} {o : Nat} {H H1 : Heap} (h : gg E o H) (hq : ∀ q : Nat, q < H.size → bl o 1 q → H1[q]? = H[q]?) : gg E o H1 := by
  obtain ⟨r, e1, cell, e2, e3⟩ := id h
  have hl : o < H.size := by
    apply Classical.byContradiction
    intro q
    rw [Array.getElem?_eq_none (by simpa using q)] at e2
    cases e2
  exact h.kept (hq _ hl ⟨by simp, by simp⟩)
def tr (E : ke_E) (d : Nat) (H : Heap) : Prop := ∃ y, dz E d y H
theorem tr_fr2 {E : ke_E} {d : Nat} {H H1 : Heap} (h : tr E d H) (hq : ∀ q : Nat, q < H.size → bl d 59 q → H1[q]? = H[q]?) : tr E d H1 := by
  obtain ⟨y, h⟩ := h
  exact ⟨y, dz_fr2 h hq⟩
theorem tr_mk {E : ke_E} {d : Nat} {y : Nat → Int32} {H : Heap} (h : dz E d y H) : tr E d H := ⟨y, h⟩
def hy (E : ke_E) (h n : Nat) (r : Nat → Int32) (H : Heap) : Prop := ∃ (P : Nat → Nat) (g : Nat → Nat → Int32), hinj P ∧ hs E h P n g H ∧ ∀ k, k < n → ag 20 (g k) (fun j => r (322*k + j))
theorem hy_fr2 {E : ke_E} {h n : Nat} {r : Nat → Int32} {H H1 : Heap} (k : hy E h n r H) (hq : ∀ q : Nat, q < H.size → bl h 356 q → H1[q]? = H[q]?) : hy E h n r H1 := by
  obtain ⟨P, g, h1, h2, h3⟩ := k
  exact ⟨P, g, h1, hs_fr2 h2 hq, h3⟩
theorem hy_at {E : ke_E} {h n : Nat} {r : Nat → Int32} {H : Heap} (k : hy E h n r H) : va_at E.1 vwCl (h, .inr (2, [.ref (h + 1), .int (nI n)])) H := by
  obtain ⟨P, g, h1, h2, h3⟩ := k
  exact h2.2.1
theorem c_X2_save (l : Launch) (E : ke_E) (h0 n : Nat) (r : Nat → Int32) (d : Nat) (z : Nat → Int32) (hdj : d + 59 ≤ h0 ∨ h0 + 356 ≤ d) (hI : iv z) (hn6 : n ≤ 6) : Met l yX2_save wsX2_save rm_X2_save (kp E [.ref h0, .ref d] (fun H => hy E h0 n r H ∧ dz E d z H)) (qm none (bl h0 356) (hy E h0 (svN n) (svR r z n))) 0 0 (bl h0 356) := by
  have hc := iv_c hI
  by_cases c : n = 6
  · subst c
    refine met_ex (X := (Nat → Nat) × (Nat → Nat → Int32)) (C := fun y => hinj y.1 ∧ ∀ k, k < 6 → ag 20 (y.2 k) (fun j => r (322*k + j))) (P := fun y H => hs E h0 y.1 6 y.2 H ∧ dz E d z H) (Q0 := fun y => hs E h0 (rot y.1) 6 (updN (rot y.2) 5 z)) (fun y hC => c_X2_save_6 l E h0 y.1 y.2 d z hC.1 hdj hI) ?_
    intro H hP
    obtain ⟨⟨P, g, h1, h2, h3⟩, h4⟩ := hP
    refine ⟨(P, g), ⟨h1, h3⟩, ⟨h2, h4⟩, fun H1 h => ?_⟩
    have e1 : svN 6 = 6 := iF_t rfl
    have e2 : svR r z 6 = puI (shI r 1610) z 5 322 := iF_t rfl
    rw [e1, e2]
    refine ⟨_, _, rot_inj h1, h, fun k hk p hp _ _ _ _ => ?_⟩
    show updN (rot g) 5 z k p = puI (shI r 1610) z 5 322 (322*k + p)
    unfold updN puI shI rot
    by_cases e : k = 5
    · subst e
      rw [if_pos rfl, if_pos (by omega), show 322*5 + p - 322*5 = p by omega]
    · rw [if_neg e, if_pos (show k < 5 by omega), if_neg (show ¬ (322*5 ≤ 322*k + p ∧ 322*k + p < 322*5 + 322) by omega), if_pos (show 322*k + p < 1610 by omega)]
      have := h3 (k + 1) (by omega) p hp (by assumption) (by assumption) (by assumption) (by assumption)
      rw [this]
      show r (322*(k + 1) + p) = r (322*k + p + 322)
      congr 1
      omega
  · refine met_ex (X := (Nat → Nat) × (Nat → Nat → Int32)) (C := fun y => hinj y.1 ∧ ∀ k, k < n → ag 20 (y.2 k) (fun j => r (322*k + j))) (P := fun y H => hs E h0 y.1 n y.2 H ∧ dz E d z H) (Q0 := fun y => hs E h0 y.1 (n + 1) (updN y.2 n z)) (fun y hC => c_X2_save_n l E h0 y.1 y.2 d z n hC.1 hdj hI (by omega)) ?_
    intro H hP
    obtain ⟨⟨P, g, h1, h2, h3⟩, h4⟩ := hP
    refine ⟨(P, g), ⟨h1, h3⟩, ⟨h2, h4⟩, fun H1 h => ?_⟩
    have e1 : svN n = n + 1 := iF_f c
    have e2 : svR r z n = puI r z n 322 := iF_f c
    rw [e1, e2]
    refine ⟨_, _, h1, h, fun k hk p hp _ _ _ _ => ?_⟩
    show updN g n z k p = puI r z n 322 (322*k + p)
    unfold updN puI
    by_cases e : k = n
    · subst e
      rw [if_pos rfl, if_pos (by omega), show 322*k + p - 322*k = p by omega]
    · rw [if_neg e, if_neg (by omega)]
      exact h3 k (by omega) p hp (by assumption) (by assumption) (by assumption) (by assumption)
theorem c_X2_restore_r (l : Launch) (E : ke_E) (h0 k : Nat) (r : Nat → Int32) (d : Nat) (z : Nat → Int32) (hdj : d + 59 ≤ h0 ∨ h0 + 356 ≤ d) (hI : iv (fun j => r (322*k + j))) (hk6 : k < 6) : Met l yX2_restore wsX2_restore rm_X2_restore (kp E [.ref h0, .ref d] (fun H => hy E h0 (k + 1) r H ∧ dz E d z H)) (qm none (br d h0) (fun H => hy E h0 k r H ∧ dz E d (fun j => r (322*k + j)) H)) 0 0 (br d h0) := by
  have hc := iv_c hI
  refine met_ex (X := (Nat → Nat) × (Nat → Nat → Int32)) (C := fun y => hinj y.1 ∧ ∀ i, i < k + 1 → ag 20 (y.2 i) (fun j => r (322*i + j))) (P := fun y H => hs E h0 y.1 (k + 1) y.2 H ∧ dz E d z H) (Q0 := fun y H => hs E h0 y.1 k y.2 H ∧ dz E d (y.2 k) H) (fun y hC => c_X2_restore l E h0 y.1 y.2 d z k hdj (iv_ag hI (ag_le (hC.2 k (by omega)) hc)) hk6) ?_
  intro H hP
  obtain ⟨⟨P, g, h1, h2, h3⟩, h4⟩ := hP
  have a := h3 k (by omega)
  have e : cn (g k) = cn (fun j => r (322*k + j)) := ag_cn (ag_sy a)
  exact ⟨(P, g), ⟨h1, h3⟩, ⟨h2, h4⟩, fun H1 h => ⟨⟨P, g, h1, h.1, fun i hi => h3 i (by omega)⟩, dz_z h.2 (ag_le a (by rw [e]; exact hc))⟩⟩
theorem wy2_t {z : Nat → Int32} {u : Nat} (h : wy2 z u = 0) : tst z u := by
  apply Classical.byContradiction
  intro q
  unfold wy2 at h
  have n1 : ¬ nI 1 = 0 := by decide
  have n2 : ¬ nI 2 = 0 := by decide
  have n3 : ¬ nI 3 = 0 := by decide
  by_cases a : ¬ z (13*u + 68) = 0
  · rw [iF_t a] at h; exact n1 h
  · rw [iF_f a] at h
    by_cases b : hld z u
    · rw [iF_t b] at h; exact n2 h
    · rw [iF_f b, iF_t q] at h; exact n3 h
theorem z01 {x : Int32} (h : rg x 0 1) (k : ¬ x = 0) : x = nI 1 := by
  obtain ⟨j, rfl, h1, h2⟩ := rg_nI h (by decide)
  rcases (by omega : j = 0 ∨ j = 1) with e | e <;> subst e
  · exact absurd rfl k
  · rfl
/-- the sums that the reference keeps -/
def jw (z : Nat → Int32) : Prop := z 2 = saN z (cn z) ∧ z 3 = vmZ z ∧ z 4 = wcN z (cn z) ∧ z 6 = cmN z (cn z)
def rm_X6_requireRange : Room := { frames := 0, cells := 0, slots := 0, locals := 0 }
theorem hd_X6_requireRange : k_hd1 yX6_requireRange RX6 3 := by decide +kernel
set_option maxHeartbeats 4000000 in
set_option maxRecDepth 100000 in
theorem c_X6_requireRange (l : Launch) (E : ke_E) (a : Nat) (b : Nat) (x : Int32) (h1 : nI a ≤ x ∧ x ≤ nI b) : Met l yX6_requireRange wsX6_requireRange rm_X6_requireRange (kp E [.int x, .int (nI a), .int (nI b)] (fun _ => True)) (qp none) 0 0 nof := by
  refine k_hd (cc := cX6_requireRange) (maxL := 3) (ret := none) (by decide) rfl (Nat.le_of_ble_eq_true rfl) ?_
  intro p e s m below meth c ls S hr hlk hnm hK hP hl
  have hx := S.1
  have hb := S.2.1
  have hts := S.2.2.2.2
  have hl : lv_has ls 3 [(0, .int x), (1, .int (nI a)), (2, .int (nI b))] := hl
  refine lv_iload_n hx hb dX6_requireRange_0 rfl (lv_at hl 0 rfl) ?_
  refine lv_iload_n hx hb dX6_requireRange_1 rfl (lv_at hl 1 rfl) ?_
  refine lv_icmp_lt (tgt := 10) hx hb dX6_requireRange_2 (by decide) (fun h => absurd h (Int32.not_lt.mpr h1.1)) (fun c2 => ?_)
  refine lv_iload_n hx hb dX6_requireRange_5 rfl (lv_at hl 0 rfl) ?_
  refine lv_iload_n hx hb dX6_requireRange_6 rfl (lv_at hl 2 rfl) ?_
  refine lv_icmp_le (tgt := 21) hx hb dX6_requireRange_7 (by decide) (fun c7 => ?_) (fun h => absurd h1.2 h)
  exact k_vret hx hb hr hlk dX6_requireRange_21
def rm_X6_unitNumbered : Room := { frames := 1, cells := 0, slots := 0, locals := 21 }
theorem hd_X6_unitNumbered : k_hd1 yX6_unitNumbered RX6 1 := by decide +kernel
set_option maxHeartbeats 4000000 in
set_option maxRecDepth 100000 in
theorem c_X6_unitNumbered (l : Launch) (E : ke_E) (o : Nat) (z : Nat → Int32) (u : Nat) (hI : iv z) (hu : u < cn z) : Met l yX6_unitNumbered wsX6_unitNumbered rm_X6_unitNumbered (kp E [.ref o, .int (nI u)] (fun H => gg E o H ∧ dz E (o + 1) z H)) (qp (some (.ref (o + 1 + 2*u + 19)))) 0 0 nof := by
  refine k_hd (cc := cX6_unitNumbered) (maxL := 2) (ret := (some (.object "ReturnGrades$Unit"))) (by decide) rfl (Nat.le_of_ble_eq_true rfl) ?_
  intro p e s m below meth c ls S hr hlk hnm hK hP hl
  have hx := S.1
  have hb := S.2.1
  have hts := S.2.2.2.2
  obtain ⟨hP0, hP1⟩ := hP
  have hl : lv_has ls 2 [(0, .ref o), (1, .int (nI u))] := hl
  have hc20 := iv_c hI
  refine lv_iload_n hx hb dX6_unitNumbered_0 rfl (lv_at hl 1 rfl) ?_
  refine lv_aload_n hx hb dX6_unitNumbered_1 rfl (lv_at hl 0 rfl) ?_
  refine k_get S hK hP0 rfl (fun _ h => List.mem_cons_of_mem _ (List.mem_append_left _ (List.mem_append_left _ (List.mem_append_right _ (h))))) 0 (by decide) (List.mem_cons_of_mem _ (List.mem_append_left _ (List.mem_append_left _ (List.mem_append_left _ (List.mem_of_getElem? (i := 2) rfl))))) rfl (v := .ref (o + 1)) rfl dX6_unitNumbered_2 ?_
  refine k_get S hK (dz_d hP1) rfl (fun _ h => List.mem_cons_of_mem _ (List.mem_append_left _ (List.mem_append_right _ (h)))) 4 (by decide) (List.mem_cons_of_mem _ (List.mem_append_left _ (List.mem_append_left _ (List.mem_append_left _ (List.mem_of_getElem? (i := 3) rfl))))) rfl (v := .int (nI (cn z))) (congrArg (fun x => some (Value.int x)) ((iv_n hI))) dX6_unitNumbered_5 ?_
  refine k_S (As := [.int (nI u), .int (nI (cn z))]) (rest := []) S hK (c_X6_isIndex_n l E u (cn z) (by omega) (by omega)) gX6_unitNumbered_X6_isIndex rfl hd_X6_isIndex ⟨rfl, rfl⟩ ⟨Nat.le_of_ble_eq_true rfl, Nat.le_of_ble_eq_true rfl⟩ trivial rfl hl.1 rfl (Nat.le_of_ble_eq_true rfl) dX6_unitNumbered_8 ⟨Nat.le_of_ble_eq_true rfl, Nat.le_of_ble_eq_true rfl⟩ ?_
  refine b_eq (tgt := 29) hx hb dX6_unitNumbered_11 (by decide) (fun h => absurd hu h) (fun c11 => ?_)
  refine lv_iload_n hx hb dX6_unitNumbered_14 rfl (lv_at hl 1 rfl) ?_
  refine lv_aload_n hx hb dX6_unitNumbered_15 rfl (lv_at hl 0 rfl) ?_
  refine k_get S hK hP0 rfl (fun _ h => List.mem_cons_of_mem _ (List.mem_append_left _ (List.mem_append_left _ (List.mem_append_right _ (h))))) 0 (by decide) (List.mem_cons_of_mem _ (List.mem_append_left _ (List.mem_append_left _ (List.mem_append_left _ (List.mem_of_getElem? (i := 2) rfl))))) rfl (v := .ref (o + 1)) rfl dX6_unitNumbered_16 ?_
  refine k_get S hK (dz_d hP1) rfl (fun _ h => List.mem_cons_of_mem _ (List.mem_append_left _ (List.mem_append_right _ (h)))) 2 (by decide) (List.mem_cons_of_mem _ (List.mem_append_left _ (List.mem_append_left _ (List.mem_append_left _ (List.mem_of_getElem? (i := 4) rfl))))) rfl (v := .ref (o + 1 + 3)) rfl dX6_unitNumbered_19 ?_
  refine k_alen hx hb hK (t := 3) rfl (dz_ua hP1) dX6_unitNumbered_22 ?_
  refine k_top (y := nI 20) rfl ?_
  refine k_S (As := [.int (nI u), .int (nI 20)]) (rest := []) S hK (c_X6_isIndex_n l E u 20 (by omega) (by omega)) gX6_unitNumbered_X6_isIndex rfl hd_X6_isIndex ⟨rfl, rfl⟩ ⟨Nat.le_of_ble_eq_true rfl, Nat.le_of_ble_eq_true rfl⟩ trivial rfl hl.1 rfl (Nat.le_of_ble_eq_true rfl) dX6_unitNumbered_23 ⟨Nat.le_of_ble_eq_true rfl, Nat.le_of_ble_eq_true rfl⟩ ?_
  refine b_ne (tgt := 40) hx hb dX6_unitNumbered_26 (by decide) (fun c26 => ?_) (fun h => absurd (by omega) h)
  refine lv_aload_n hx hb dX6_unitNumbered_40 rfl (lv_at hl 0 rfl) ?_
  refine k_get S hK hP0 rfl (fun _ h => List.mem_cons_of_mem _ (List.mem_append_left _ (List.mem_append_left _ (List.mem_append_right _ (h))))) 0 (by decide) (List.mem_cons_of_mem _ (List.mem_append_left _ (List.mem_append_left _ (List.mem_append_left _ (List.mem_of_getElem? (i := 2) rfl))))) rfl (v := .ref (o + 1)) rfl dX6_unitNumbered_41 ?_
  refine k_get S hK (dz_d hP1) rfl (fun _ h => List.mem_cons_of_mem _ (List.mem_append_left _ (List.mem_append_right _ (h)))) 2 (by decide) (List.mem_cons_of_mem _ (List.mem_append_left _ (List.mem_append_left _ (List.mem_append_left _ (List.mem_of_getElem? (i := 4) rfl))))) rfl (v := .ref (o + 1 + 3)) rfl dX6_unitNumbered_44 ?_
  refine lv_iload_n hx hb dX6_unitNumbered_47 rfl (lv_at hl 1 rfl) ?_
  refine k_aald hx hb hK (t := 3) rfl (dz_ua hP1) (by omega) (by decide) (v := o + 1 + 2*u + 19) rfl dX6_unitNumbered_48 ?_
  exact k_aret hx hb hr hlk dX6_unitNumbered_49 (rfl)
def rm_X6_productNumbered : Room := { frames := 1, cells := 0, slots := 0, locals := 21 }
theorem hd_X6_productNumbered : k_hd1 yX6_productNumbered RX6 1 := by decide +kernel
set_option maxHeartbeats 4000000 in
set_option maxRecDepth 100000 in
theorem c_X6_productNumbered (l : Launch) (E : ke_E) (o : Nat) (z : Nat → Int32) (q : Nat) (hI : iv z) (hq6 : q < 6) : Met l yX6_productNumbered wsX6_productNumbered rm_X6_productNumbered (kp E [.ref o, .int (nI q)] (fun H => gg E o H ∧ dz E (o + 1) z H)) (qp (some (.ref (o + 1 + q + 5)))) 0 0 nof := by
  refine k_hd (cc := cX6_productNumbered) (maxL := 2) (ret := (some (.object "ReturnGrades$Product"))) (by decide) rfl (Nat.le_of_ble_eq_true rfl) ?_
  intro p e s m below meth c ls S hr hlk hnm hK hP hl
  have hx := S.1
  have hb := S.2.1
  have hts := S.2.2.2.2
  obtain ⟨hP0, hP1⟩ := hP
  have hl : lv_has ls 2 [(0, .ref o), (1, .int (nI q))] := hl
  have hc20 := iv_c hI
  refine lv_iload_n hx hb dX6_productNumbered_0 rfl (lv_at hl 1 rfl) ?_
  refine lv_aload_n hx hb dX6_productNumbered_1 rfl (lv_at hl 0 rfl) ?_
  refine k_get S hK hP0 rfl (fun _ h => List.mem_cons_of_mem _ (List.mem_append_left _ (List.mem_append_left _ (List.mem_append_right _ (h))))) 0 (by decide) (List.mem_cons_of_mem _ (List.mem_append_left _ (List.mem_append_left _ (List.mem_append_left _ (List.mem_of_getElem? (i := 2) rfl))))) rfl (v := .ref (o + 1)) rfl dX6_productNumbered_2 ?_
  refine k_get S hK (dz_d hP1) rfl (fun _ h => List.mem_cons_of_mem _ (List.mem_append_left _ (List.mem_append_right _ (h)))) 0 (by decide) (List.mem_cons_of_mem _ (List.mem_append_left _ (List.mem_append_left _ (List.mem_append_left _ (List.mem_of_getElem? (i := 3) rfl))))) rfl (v := .ref (o + 1 + 1)) rfl dX6_productNumbered_5 ?_
  refine k_alen hx hb hK (t := 1) rfl (dz_pa hP1) dX6_productNumbered_8 ?_
  refine k_top (y := nI 6) rfl ?_
  refine k_S (As := [.int (nI q), .int (nI 6)]) (rest := []) S hK (c_X6_isIndex_n l E q 6 (by omega) (by omega)) gX6_productNumbered_X6_isIndex rfl hd_X6_isIndex ⟨rfl, rfl⟩ ⟨Nat.le_of_ble_eq_true rfl, Nat.le_of_ble_eq_true rfl⟩ trivial rfl hl.1 rfl (Nat.le_of_ble_eq_true rfl) dX6_productNumbered_9 ⟨Nat.le_of_ble_eq_true rfl, Nat.le_of_ble_eq_true rfl⟩ ?_
  refine b_ne (tgt := 26) hx hb dX6_productNumbered_12 (by decide) (fun c12 => ?_) (fun h => absurd hq6 h)
  refine lv_aload_n hx hb dX6_productNumbered_26 rfl (lv_at hl 0 rfl) ?_
  refine k_get S hK hP0 rfl (fun _ h => List.mem_cons_of_mem _ (List.mem_append_left _ (List.mem_append_left _ (List.mem_append_right _ (h))))) 0 (by decide) (List.mem_cons_of_mem _ (List.mem_append_left _ (List.mem_append_left _ (List.mem_append_left _ (List.mem_of_getElem? (i := 2) rfl))))) rfl (v := .ref (o + 1)) rfl dX6_productNumbered_27 ?_
  refine k_get S hK (dz_d hP1) rfl (fun _ h => List.mem_cons_of_mem _ (List.mem_append_left _ (List.mem_append_right _ (h)))) 0 (by decide) (List.mem_cons_of_mem _ (List.mem_append_left _ (List.mem_append_left _ (List.mem_append_left _ (List.mem_of_getElem? (i := 3) rfl))))) rfl (v := .ref (o + 1 + 1)) rfl dX6_productNumbered_30 ?_
  refine lv_iload_n hx hb dX6_productNumbered_33 rfl (lv_at hl 1 rfl) ?_
  refine k_aald hx hb hK (t := 1) rfl (dz_pa hP1) (by omega) (by decide) (v := o + 1 + q + 5) rfl dX6_productNumbered_34 ?_
  exact k_aret hx hb hr hlk dX6_productNumbered_35 (rfl)
def rm_X6_vendorNumbered : Room := { frames := 1, cells := 0, slots := 0, locals := 21 }
theorem hd_X6_vendorNumbered : k_hd1 yX6_vendorNumbered RX6 1 := by decide +kernel
set_option maxHeartbeats 4000000 in
set_option maxRecDepth 100000 in
theorem c_X6_vendorNumbered (l : Launch) (E : ke_E) (o : Nat) (z : Nat → Int32) (v : Nat) (hI : iv z) (hv4 : v < 4) : Met l yX6_vendorNumbered wsX6_vendorNumbered rm_X6_vendorNumbered (kp E [.ref o, .int (nI v)] (fun H => gg E o H ∧ dz E (o + 1) z H)) (qp (some (.ref (o + 1 + 2*v + 11)))) 0 0 nof := by
  refine k_hd (cc := cX6_vendorNumbered) (maxL := 2) (ret := (some (.object "ReturnGrades$Vendor"))) (by decide) rfl (Nat.le_of_ble_eq_true rfl) ?_
  intro p e s m below meth c ls S hr hlk hnm hK hP hl
  have hx := S.1
  have hb := S.2.1
  have hts := S.2.2.2.2
  obtain ⟨hP0, hP1⟩ := hP
  have hl : lv_has ls 2 [(0, .ref o), (1, .int (nI v))] := hl
  have hc20 := iv_c hI
  refine lv_iload_n hx hb dX6_vendorNumbered_0 rfl (lv_at hl 1 rfl) ?_
  refine lv_aload_n hx hb dX6_vendorNumbered_1 rfl (lv_at hl 0 rfl) ?_
  refine k_get S hK hP0 rfl (fun _ h => List.mem_cons_of_mem _ (List.mem_append_left _ (List.mem_append_left _ (List.mem_append_right _ (h))))) 0 (by decide) (List.mem_cons_of_mem _ (List.mem_append_left _ (List.mem_append_left _ (List.mem_append_left _ (List.mem_of_getElem? (i := 2) rfl))))) rfl (v := .ref (o + 1)) rfl dX6_vendorNumbered_2 ?_
  refine k_get S hK (dz_d hP1) rfl (fun _ h => List.mem_cons_of_mem _ (List.mem_append_left _ (List.mem_append_right _ (h)))) 1 (by decide) (List.mem_cons_of_mem _ (List.mem_append_left _ (List.mem_append_left _ (List.mem_append_left _ (List.mem_of_getElem? (i := 3) rfl))))) rfl (v := .ref (o + 1 + 2)) rfl dX6_vendorNumbered_5 ?_
  refine k_alen hx hb hK (t := 2) rfl (dz_va hP1) dX6_vendorNumbered_8 ?_
  refine k_top (y := nI 4) rfl ?_
  refine k_S (As := [.int (nI v), .int (nI 4)]) (rest := []) S hK (c_X6_isIndex_n l E v 4 (by omega) (by omega)) gX6_vendorNumbered_X6_isIndex rfl hd_X6_isIndex ⟨rfl, rfl⟩ ⟨Nat.le_of_ble_eq_true rfl, Nat.le_of_ble_eq_true rfl⟩ trivial rfl hl.1 rfl (Nat.le_of_ble_eq_true rfl) dX6_vendorNumbered_9 ⟨Nat.le_of_ble_eq_true rfl, Nat.le_of_ble_eq_true rfl⟩ ?_
  refine b_ne (tgt := 26) hx hb dX6_vendorNumbered_12 (by decide) (fun c12 => ?_) (fun h => absurd hv4 h)
  refine lv_aload_n hx hb dX6_vendorNumbered_26 rfl (lv_at hl 0 rfl) ?_
  refine k_get S hK hP0 rfl (fun _ h => List.mem_cons_of_mem _ (List.mem_append_left _ (List.mem_append_left _ (List.mem_append_right _ (h))))) 0 (by decide) (List.mem_cons_of_mem _ (List.mem_append_left _ (List.mem_append_left _ (List.mem_append_left _ (List.mem_of_getElem? (i := 2) rfl))))) rfl (v := .ref (o + 1)) rfl dX6_vendorNumbered_27 ?_
  refine k_get S hK (dz_d hP1) rfl (fun _ h => List.mem_cons_of_mem _ (List.mem_append_left _ (List.mem_append_right _ (h)))) 1 (by decide) (List.mem_cons_of_mem _ (List.mem_append_left _ (List.mem_append_left _ (List.mem_append_left _ (List.mem_of_getElem? (i := 3) rfl))))) rfl (v := .ref (o + 1 + 2)) rfl dX6_vendorNumbered_30 ?_
  refine lv_iload_n hx hb dX6_vendorNumbered_33 rfl (lv_at hl 1 rfl) ?_
  refine k_aald hx hb hK (t := 2) rfl (dz_va hP1) (by omega) (by decide) (v := o + 1 + 2*v + 11) rfl dX6_vendorNumbered_34 ?_
  exact k_aret hx hb hr hlk dX6_vendorNumbered_35 (rfl)
def rm_X6_unit : Room := { frames := 3, cells := 0, slots := 0, locals := 63 }
theorem hd_X6_unit : k_hd1 yX6_unit RX6 2 := by decide +kernel
set_option maxHeartbeats 4000000 in
set_option maxRecDepth 100000 in
theorem c_X6_unit (l : Launch) (E : ke_E) (o : Nat) (z : Nat → Int32) (u : Nat) (k : Nat) (hI : iv z) (hu : u < cn z) (hk : k < 14) : Met l yX6_unit wsX6_unit rm_X6_unit (kp E [.ref o, .int (nI u), .int (nI k)] (fun H => gg E o H ∧ dz E (o + 1) z H)) (qp (some (.int (unV z u k)))) 0 0 nof := by
  refine k_hd (cc := cX6_unit) (maxL := 4) (ret := (some .int)) (by decide) rfl (Nat.le_of_ble_eq_true rfl) ?_
  intro p e s m below meth c ls S hr hlk hnm hK hP hl
  have hx := S.1
  have hb := S.2.1
  have hts := S.2.2.2.2
  obtain ⟨hP0, hP1⟩ := hP
  have hl : lv_has ls 4 [(0, .ref o), (1, .int (nI u)), (2, .int (nI k))] := hl
  have hc20 := iv_c hI
  refine lv_aload_n hx hb dX6_unit_0 rfl (lv_at hl 0 rfl) ?_
  refine lv_iload_n hx hb dX6_unit_1 rfl (lv_at hl 1 rfl) ?_
  refine k_V (As := [.int (nI u)]) (rest := []) S hK (c_X6_unitNumbered l E o z u hI hu) gX6_unit_X6_unitNumbered rfl hd_X6_unitNumbered ⟨rfl, rfl⟩ ⟨Nat.le_of_ble_eq_true rfl, Nat.le_of_ble_eq_true rfl⟩ (k_recv hK hP0 rfl) ⟨hP0, hP1⟩ rfl hl.1 rfl (Nat.le_of_ble_eq_true rfl) dX6_unit_2 ⟨Nat.le_of_ble_eq_true rfl, Nat.le_of_ble_eq_true rfl⟩ ?_
  refine lv_astore_n (lv' := [(3, .ref (o + 1 + 2*u + 19)), (0, .ref o), (1, .int (nI u)), (2, .int (nI k))]) hx hb dX6_unit_5 rfl hl (by decide) rfl (fun ls hl => ?_)
  rcases (by omega : k = 0 ∨ k = 1 ∨ k = 2 ∨ k = 3 ∨ k = 4 ∨ k = 5 ∨ k = 6 ∨ k = 7 ∨ k = 8 ∨ k = 9 ∨ k = 10 ∨ k = 11 ∨ k = 12 ∨ k = 13) with rfl | rfl | rfl | rfl | rfl | rfl | rfl | rfl | rfl | rfl | rfl | rfl | rfl | rfl
  · have hl : lv_has ls 4 [(3, .ref (o + 1 + 2*u + 19)), (0, .ref o), (1, .int (nI u)), (2, .int (nI 0))] := hl
    refine lv_iload_n hx hb dX6_unit_6 rfl (lv_at hl 3 rfl) ?_
    refine lv_tableIn (off := 69) (tgt := 76) hx hb dX6_unit_7 (by decide) (by decide) (by decide) (by decide) ?_
    refine lv_aload_n hx hb dX6_unit_76 rfl (lv_at hl 0 rfl) ?_
    have hq1 := iv_upl hI hu
    refine k_get S hK (dz_u hP1 u hu) rfl (fun _ h => List.mem_cons_of_mem _ (List.mem_append_left _ (List.mem_append_left _ (List.mem_append_left _ (List.mem_append_left _ (List.mem_append_left _ (List.mem_append_right _ (h)))))))) 1 (by decide) (List.mem_cons_of_mem _ (List.mem_append_left _ (List.mem_append_left _ (List.mem_append_left _ (List.mem_append_left _ (List.mem_append_left _ (List.mem_append_left _ (List.mem_append_left _ (List.mem_of_getElem? (i := 2) rfl))))))))) rfl (v := .int (nI (up z u))) (congrArg (fun x => some (Value.int x)) ((iv_up hI hu))) dX6_unit_77 ?_
    exact k_iret hx hb hr hlk dX6_unit_80 (rfl)
  · have hl : lv_has ls 4 [(3, .ref (o + 1 + 2*u + 19)), (0, .ref o), (1, .int (nI u)), (2, .int (nI 1))] := hl
    refine lv_iload_n hx hb dX6_unit_6 rfl (lv_at hl 3 rfl) ?_
    refine lv_tableIn (off := 74) (tgt := 81) hx hb dX6_unit_7 (by decide) (by decide) (by decide) (by decide) ?_
    refine lv_aload_n hx hb dX6_unit_81 rfl (lv_at hl 0 rfl) ?_
    have hq1 := iv_url hI hu
    refine k_get S hK (dz_u hP1 u hu) rfl (fun _ h => List.mem_cons_of_mem _ (List.mem_append_left _ (List.mem_append_left _ (List.mem_append_left _ (List.mem_append_left _ (List.mem_append_left _ (List.mem_append_right _ (h)))))))) 2 (by decide) (List.mem_cons_of_mem _ (List.mem_append_left _ (List.mem_append_left _ (List.mem_append_left _ (List.mem_append_left _ (List.mem_append_left _ (List.mem_append_left _ (List.mem_append_left _ (List.mem_of_getElem? (i := 3) rfl))))))))) rfl (v := .int (nI (ur z u))) (congrArg (fun x => some (Value.int x)) ((iv_ur hI hu))) dX6_unit_82 ?_
    exact k_iret hx hb hr hlk dX6_unit_85 (rfl)
  · have hl : lv_has ls 4 [(3, .ref (o + 1 + 2*u + 19)), (0, .ref o), (1, .int (nI u)), (2, .int (nI 2))] := hl
    refine lv_iload_n hx hb dX6_unit_6 rfl (lv_at hl 3 rfl) ?_
    refine lv_tableIn (off := 79) (tgt := 86) hx hb dX6_unit_7 (by decide) (by decide) (by decide) (by decide) ?_
    refine lv_aload_n hx hb dX6_unit_86 rfl (lv_at hl 0 rfl) ?_
    refine k_get S hK (dz_u hP1 u hu) rfl (fun _ h => List.mem_cons_of_mem _ (List.mem_append_left _ (List.mem_append_left _ (List.mem_append_left _ (List.mem_append_left _ (List.mem_append_left _ (List.mem_append_right _ (h)))))))) 0 (by decide) (List.mem_cons_of_mem _ (List.mem_append_left _ (List.mem_append_left _ (List.mem_append_left _ (List.mem_append_left _ (List.mem_append_left _ (List.mem_append_left _ (List.mem_append_left _ (List.mem_of_getElem? (i := 4) rfl))))))))) rfl (v := .ref (o + 1 + 2*u + 20)) rfl dX6_unit_87 ?_
    refine lv_iconst (v := nI 0) hx hb dX6_unit_90 (by decide) ?_
    refine k_iald hx hb hK (dz_sc hP1 u hu) (by omega) (by decide) (v := z (13*u + 64)) (congrArg _ (show 13*u + 0 + 64 = 13*u + 64 by omega)) dX6_unit_91 ?_
    exact k_iret hx hb hr hlk dX6_unit_92 (rfl)
  · have hl : lv_has ls 4 [(3, .ref (o + 1 + 2*u + 19)), (0, .ref o), (1, .int (nI u)), (2, .int (nI 3))] := hl
    refine lv_iload_n hx hb dX6_unit_6 rfl (lv_at hl 3 rfl) ?_
    refine lv_tableIn (off := 86) (tgt := 93) hx hb dX6_unit_7 (by decide) (by decide) (by decide) (by decide) ?_
    refine lv_aload_n hx hb dX6_unit_93 rfl (lv_at hl 0 rfl) ?_
    refine k_get S hK (dz_u hP1 u hu) rfl (fun _ h => List.mem_cons_of_mem _ (List.mem_append_left _ (List.mem_append_left _ (List.mem_append_left _ (List.mem_append_left _ (List.mem_append_left _ (List.mem_append_right _ (h)))))))) 0 (by decide) (List.mem_cons_of_mem _ (List.mem_append_left _ (List.mem_append_left _ (List.mem_append_left _ (List.mem_append_left _ (List.mem_append_left _ (List.mem_append_left _ (List.mem_append_left _ (List.mem_of_getElem? (i := 4) rfl))))))))) rfl (v := .ref (o + 1 + 2*u + 20)) rfl dX6_unit_94 ?_
    refine lv_iconst (v := nI 1) hx hb dX6_unit_97 (by decide) ?_
    refine k_iald hx hb hK (dz_sc hP1 u hu) (by omega) (by decide) (v := z (13*u + 65)) (congrArg _ (show 13*u + 1 + 64 = 13*u + 65 by omega)) dX6_unit_98 ?_
    exact k_iret hx hb hr hlk dX6_unit_99 (rfl)
  · have hl : lv_has ls 4 [(3, .ref (o + 1 + 2*u + 19)), (0, .ref o), (1, .int (nI u)), (2, .int (nI 4))] := hl
    refine lv_iload_n hx hb dX6_unit_6 rfl (lv_at hl 3 rfl) ?_
    refine lv_tableIn (off := 93) (tgt := 100) hx hb dX6_unit_7 (by decide) (by decide) (by decide) (by decide) ?_
    refine lv_aload_n hx hb dX6_unit_100 rfl (lv_at hl 0 rfl) ?_
    refine k_get S hK (dz_u hP1 u hu) rfl (fun _ h => List.mem_cons_of_mem _ (List.mem_append_left _ (List.mem_append_left _ (List.mem_append_left _ (List.mem_append_left _ (List.mem_append_left _ (List.mem_append_right _ (h)))))))) 0 (by decide) (List.mem_cons_of_mem _ (List.mem_append_left _ (List.mem_append_left _ (List.mem_append_left _ (List.mem_append_left _ (List.mem_append_left _ (List.mem_append_left _ (List.mem_append_left _ (List.mem_of_getElem? (i := 4) rfl))))))))) rfl (v := .ref (o + 1 + 2*u + 20)) rfl dX6_unit_101 ?_
    refine lv_iconst (v := nI 2) hx hb dX6_unit_104 (by decide) ?_
    refine k_iald hx hb hK (dz_sc hP1 u hu) (by omega) (by decide) (v := z (13*u + 66)) (congrArg _ (show 13*u + 2 + 64 = 13*u + 66 by omega)) dX6_unit_105 ?_
    exact k_iret hx hb hr hlk dX6_unit_106 (rfl)
  · have hl : lv_has ls 4 [(3, .ref (o + 1 + 2*u + 19)), (0, .ref o), (1, .int (nI u)), (2, .int (nI 5))] := hl
    refine lv_iload_n hx hb dX6_unit_6 rfl (lv_at hl 3 rfl) ?_
    refine lv_tableIn (off := 100) (tgt := 107) hx hb dX6_unit_7 (by decide) (by decide) (by decide) (by decide) ?_
    refine lv_aload_n hx hb dX6_unit_107 rfl (lv_at hl 0 rfl) ?_
    refine k_get S hK (dz_u hP1 u hu) rfl (fun _ h => List.mem_cons_of_mem _ (List.mem_append_left _ (List.mem_append_left _ (List.mem_append_left _ (List.mem_append_left _ (List.mem_append_left _ (List.mem_append_right _ (h)))))))) 0 (by decide) (List.mem_cons_of_mem _ (List.mem_append_left _ (List.mem_append_left _ (List.mem_append_left _ (List.mem_append_left _ (List.mem_append_left _ (List.mem_append_left _ (List.mem_append_left _ (List.mem_of_getElem? (i := 4) rfl))))))))) rfl (v := .ref (o + 1 + 2*u + 20)) rfl dX6_unit_108 ?_
    refine lv_iconst (v := nI 3) hx hb dX6_unit_111 (by decide) ?_
    refine k_iald hx hb hK (dz_sc hP1 u hu) (by omega) (by decide) (v := z (13*u + 67)) (congrArg _ (show 13*u + 3 + 64 = 13*u + 67 by omega)) dX6_unit_112 ?_
    exact k_iret hx hb hr hlk dX6_unit_113 (rfl)
  · have hl : lv_has ls 4 [(3, .ref (o + 1 + 2*u + 19)), (0, .ref o), (1, .int (nI u)), (2, .int (nI 6))] := hl
    refine lv_iload_n hx hb dX6_unit_6 rfl (lv_at hl 3 rfl) ?_
    refine lv_tableIn (off := 107) (tgt := 114) hx hb dX6_unit_7 (by decide) (by decide) (by decide) (by decide) ?_
    refine lv_aload_n hx hb dX6_unit_114 rfl (lv_at hl 1 rfl) ?_
    refine k_get S hK hP0 rfl (fun _ h => List.mem_cons_of_mem _ (List.mem_append_left _ (List.mem_append_left _ (List.mem_append_left _ (List.mem_append_left _ (List.mem_append_right _ (h))))))) 0 (by decide) (List.mem_cons_of_mem _ (List.mem_append_left _ (List.mem_append_left _ (List.mem_append_left _ (List.mem_append_left _ (List.mem_append_left _ (List.mem_append_left _ (List.mem_append_left _ (List.mem_of_getElem? (i := 5) rfl))))))))) rfl (v := .ref (o + 1)) rfl dX6_unit_115 ?_
    refine lv_aload_n hx hb dX6_unit_118 rfl (lv_at hl 0 rfl) ?_
    refine k_V (As := [.ref (o + 1 + 2*u + 19)]) (rest := []) S hK (c_X1_gradeOf l E (o + 1) z u hI hu) gX6_unit_X1_gradeOf rfl hd_X1_gradeOf ⟨rfl, rfl⟩ ⟨Nat.le_of_ble_eq_true rfl, Nat.le_of_ble_eq_true rfl⟩ (k_recv hK (dz_d hP1) rfl) hP1 rfl hl.1 rfl (Nat.le_of_ble_eq_true rfl) dX6_unit_119 ⟨Nat.le_of_ble_eq_true rfl, Nat.le_of_ble_eq_true rfl⟩ ?_
    exact k_iret hx hb hr hlk dX6_unit_122 (rfl)
  · have hl : lv_has ls 4 [(3, .ref (o + 1 + 2*u + 19)), (0, .ref o), (1, .int (nI u)), (2, .int (nI 7))] := hl
    refine lv_iload_n hx hb dX6_unit_6 rfl (lv_at hl 3 rfl) ?_
    refine lv_tableIn (off := 116) (tgt := 123) hx hb dX6_unit_7 (by decide) (by decide) (by decide) (by decide) ?_
    refine lv_aload_n hx hb dX6_unit_123 rfl (lv_at hl 0 rfl) ?_
    refine k_get S hK (dz_u hP1 u hu) rfl (fun _ h => List.mem_cons_of_mem _ (List.mem_append_left _ (List.mem_append_left _ (List.mem_append_left _ (List.mem_append_left _ (List.mem_append_left _ (List.mem_append_right _ (h)))))))) 3 (by decide) (List.mem_cons_of_mem _ (List.mem_append_left _ (List.mem_append_left _ (List.mem_append_left _ (List.mem_append_left _ (List.mem_append_left _ (List.mem_append_left _ (List.mem_append_left _ (List.mem_of_getElem? (i := 6) rfl))))))))) rfl (v := .int (z (13*u + 68))) rfl dX6_unit_124 ?_
    exact k_iret hx hb hr hlk dX6_unit_127 (rfl)
  · have hl : lv_has ls 4 [(3, .ref (o + 1 + 2*u + 19)), (0, .ref o), (1, .int (nI u)), (2, .int (nI 8))] := hl
    refine lv_iload_n hx hb dX6_unit_6 rfl (lv_at hl 3 rfl) ?_
    refine lv_tableIn (off := 121) (tgt := 128) hx hb dX6_unit_7 (by decide) (by decide) (by decide) (by decide) ?_
    refine lv_aload_n hx hb dX6_unit_128 rfl (lv_at hl 1 rfl) ?_
    refine k_get S hK hP0 rfl (fun _ h => List.mem_cons_of_mem _ (List.mem_append_left _ (List.mem_append_left _ (List.mem_append_left _ (List.mem_append_left _ (List.mem_append_right _ (h))))))) 0 (by decide) (List.mem_cons_of_mem _ (List.mem_append_left _ (List.mem_append_left _ (List.mem_append_left _ (List.mem_append_left _ (List.mem_append_left _ (List.mem_append_left _ (List.mem_append_left _ (List.mem_of_getElem? (i := 5) rfl))))))))) rfl (v := .ref (o + 1)) rfl dX6_unit_129 ?_
    refine lv_aload_n hx hb dX6_unit_132 rfl (lv_at hl 0 rfl) ?_
    refine k_V (As := [.ref (o + 1 + 2*u + 19)]) (rest := []) S hK (c_X1_isHeld l E (o + 1) z u hI hu) gX6_unit_X1_isHeld rfl hd_X1_isHeld ⟨rfl, rfl⟩ ⟨Nat.le_of_ble_eq_true rfl, Nat.le_of_ble_eq_true rfl⟩ (k_recv hK (dz_d hP1) rfl) hP1 rfl hl.1 rfl (Nat.le_of_ble_eq_true rfl) dX6_unit_133 ⟨Nat.le_of_ble_eq_true rfl, Nat.le_of_ble_eq_true rfl⟩ ?_
    refine b_eq (tgt := 143) hx hb dX6_unit_136 (by decide) (fun c136 => ?_) (fun c136 => ?_)
    · refine lv_iconst (v := nI 0) hx hb dX6_unit_143 (by decide) ?_
      exact k_iret hx hb hr hlk dX6_unit_144 (bI_f c136)
    · refine lv_iconst (v := nI 1) hx hb dX6_unit_139 (by decide) ?_
      refine lv_goto (tgt := 144) hx hb dX6_unit_140 (by decide) ?_
      exact k_iret hx hb hr hlk dX6_unit_144 (bI_t c136)
  · have hl : lv_has ls 4 [(3, .ref (o + 1 + 2*u + 19)), (0, .ref o), (1, .int (nI u)), (2, .int (nI 9))] := hl
    refine lv_iload_n hx hb dX6_unit_6 rfl (lv_at hl 3 rfl) ?_
    refine lv_tableIn (off := 138) (tgt := 145) hx hb dX6_unit_7 (by decide) (by decide) (by decide) (by decide) ?_
    refine lv_aload_n hx hb dX6_unit_145 rfl (lv_at hl 0 rfl) ?_
    refine k_get S hK (dz_u hP1 u hu) rfl (fun _ h => List.mem_cons_of_mem _ (List.mem_append_left _ (List.mem_append_left _ (List.mem_append_left _ (List.mem_append_left _ (List.mem_append_left _ (List.mem_append_right _ (h)))))))) 4 (by decide) (List.mem_cons_of_mem _ (List.mem_append_left _ (List.mem_append_left _ (List.mem_append_left _ (List.mem_append_left _ (List.mem_append_left _ (List.mem_append_left _ (List.mem_append_left _ (List.mem_of_getElem? (i := 7) rfl))))))))) rfl (v := .int (z (13*u + 69))) rfl dX6_unit_146 ?_
    exact k_iret hx hb hr hlk dX6_unit_149 (rfl)
  · have hl : lv_has ls 4 [(3, .ref (o + 1 + 2*u + 19)), (0, .ref o), (1, .int (nI u)), (2, .int (nI 10))] := hl
    refine lv_iload_n hx hb dX6_unit_6 rfl (lv_at hl 3 rfl) ?_
    refine lv_tableIn (off := 143) (tgt := 150) hx hb dX6_unit_7 (by decide) (by decide) (by decide) (by decide) ?_
    refine lv_aload_n hx hb dX6_unit_150 rfl (lv_at hl 0 rfl) ?_
    refine k_get S hK (dz_u hP1 u hu) rfl (fun _ h => List.mem_cons_of_mem _ (List.mem_append_left _ (List.mem_append_left _ (List.mem_append_left _ (List.mem_append_left _ (List.mem_append_left _ (List.mem_append_right _ (h)))))))) 5 (by decide) (List.mem_cons_of_mem _ (List.mem_append_left _ (List.mem_append_left _ (List.mem_append_left _ (List.mem_append_left _ (List.mem_append_left _ (List.mem_append_left _ (List.mem_append_left _ (List.mem_of_getElem? (i := 8) rfl))))))))) rfl (v := .int (z (13*u + 70))) rfl dX6_unit_151 ?_
    exact k_iret hx hb hr hlk dX6_unit_154 (rfl)
  · have hl : lv_has ls 4 [(3, .ref (o + 1 + 2*u + 19)), (0, .ref o), (1, .int (nI u)), (2, .int (nI 11))] := hl
    refine lv_iload_n hx hb dX6_unit_6 rfl (lv_at hl 3 rfl) ?_
    refine lv_tableIn (off := 148) (tgt := 155) hx hb dX6_unit_7 (by decide) (by decide) (by decide) (by decide) ?_
    refine lv_aload_n hx hb dX6_unit_155 rfl (lv_at hl 0 rfl) ?_
    refine k_get S hK (dz_u hP1 u hu) rfl (fun _ h => List.mem_cons_of_mem _ (List.mem_append_left _ (List.mem_append_left _ (List.mem_append_left _ (List.mem_append_left _ (List.mem_append_left _ (List.mem_append_right _ (h)))))))) 7 (by decide) (List.mem_cons_of_mem _ (List.mem_append_left _ (List.mem_append_left _ (List.mem_append_left _ (List.mem_append_left _ (List.mem_append_left _ (List.mem_append_left _ (List.mem_append_left _ (List.mem_of_getElem? (i := 9) rfl))))))))) rfl (v := .int (z (13*u + 72))) rfl dX6_unit_156 ?_
    refine lv_if_eq (tgt := 166) hx hb dX6_unit_159 (by decide) (fun c159 => ?_) (fun c159 => ?_)
    · refine lv_iconst (v := nI 0) hx hb dX6_unit_166 (by decide) ?_
      exact k_iret hx hb hr hlk dX6_unit_167 (c159)
    · refine lv_iconst (v := nI 1) hx hb dX6_unit_162 (by decide) ?_
      refine lv_goto (tgt := 167) hx hb dX6_unit_163 (by decide) ?_
      exact k_iret hx hb hr hlk dX6_unit_167 (z01 (iv_u hI hu).2.2.2.2.2.2.1 c159)
  · have hl : lv_has ls 4 [(3, .ref (o + 1 + 2*u + 19)), (0, .ref o), (1, .int (nI u)), (2, .int (nI 12))] := hl
    refine lv_iload_n hx hb dX6_unit_6 rfl (lv_at hl 3 rfl) ?_
    refine lv_tableIn (off := 161) (tgt := 168) hx hb dX6_unit_7 (by decide) (by decide) (by decide) (by decide) ?_
    refine lv_aload_n hx hb dX6_unit_168 rfl (lv_at hl 0 rfl) ?_
    refine k_get S hK (dz_u hP1 u hu) rfl (fun _ h => List.mem_cons_of_mem _ (List.mem_append_left _ (List.mem_append_left _ (List.mem_append_left _ (List.mem_append_left _ (List.mem_append_left _ (List.mem_append_right _ (h)))))))) 8 (by decide) (List.mem_cons_of_mem _ (List.mem_append_left _ (List.mem_append_left _ (List.mem_append_left _ (List.mem_append_left _ (List.mem_append_left _ (List.mem_append_left _ (List.mem_append_left _ (List.mem_of_getElem? (i := 10) rfl))))))))) rfl (v := .int (z (13*u + 73))) rfl dX6_unit_169 ?_
    exact k_iret hx hb hr hlk dX6_unit_172 (rfl)
  · have hl : lv_has ls 4 [(3, .ref (o + 1 + 2*u + 19)), (0, .ref o), (1, .int (nI u)), (2, .int (nI 13))] := hl
    refine lv_iload_n hx hb dX6_unit_6 rfl (lv_at hl 3 rfl) ?_
    refine lv_tableIn (off := 166) (tgt := 173) hx hb dX6_unit_7 (by decide) (by decide) (by decide) (by decide) ?_
    refine lv_aload_n hx hb dX6_unit_173 rfl (lv_at hl 0 rfl) ?_
    refine k_get S hK (dz_u hP1 u hu) rfl (fun _ h => List.mem_cons_of_mem _ (List.mem_append_left _ (List.mem_append_left _ (List.mem_append_left _ (List.mem_append_left _ (List.mem_append_left _ (List.mem_append_right _ (h)))))))) 9 (by decide) (List.mem_cons_of_mem _ (List.mem_append_left _ (List.mem_append_left _ (List.mem_append_left _ (List.mem_append_left _ (List.mem_append_left _ (List.mem_append_left _ (List.mem_append_left _ (List.mem_of_getElem? (i := 11) rfl))))))))) rfl (v := .int (z (13*u + 74))) rfl dX6_unit_174 ?_
    exact k_iret hx hb hr hlk dX6_unit_177 (rfl)
def rm_X6_productOf : Room := { frames := 2, cells := 0, slots := 0, locals := 42 }
theorem hd_X6_productOf : k_hd1 yX6_productOf RX6 2 := by decide +kernel
set_option maxHeartbeats 4000000 in
set_option maxRecDepth 100000 in
theorem c_X6_productOf (l : Launch) (E : ke_E) (o : Nat) (z : Nat → Int32) (q : Nat) (k : Nat) (hI : iv z) (hq6 : q < 6) (hk : k < 6) : Met l yX6_productOf wsX6_productOf rm_X6_productOf (kp E [.ref o, .int (nI q), .int (nI k)] (fun H => gg E o H ∧ dz E (o + 1) z H)) (qp (some (.int (gdV z q k)))) 0 0 nof := by
  refine k_hd (cc := cX6_productOf) (maxL := 4) (ret := (some .int)) (by decide) rfl (Nat.le_of_ble_eq_true rfl) ?_
  intro p e s m below meth c ls S hr hlk hnm hK hP hl
  have hx := S.1
  have hb := S.2.1
  have hts := S.2.2.2.2
  obtain ⟨hP0, hP1⟩ := hP
  have hl : lv_has ls 4 [(0, .ref o), (1, .int (nI q)), (2, .int (nI k))] := hl
  have hc20 := iv_c hI
  refine lv_aload_n hx hb dX6_productOf_0 rfl (lv_at hl 0 rfl) ?_
  refine lv_iload_n hx hb dX6_productOf_1 rfl (lv_at hl 1 rfl) ?_
  refine k_V (As := [.int (nI q)]) (rest := []) S hK (c_X6_productNumbered l E o z q hI hq6) gX6_productOf_X6_productNumbered rfl hd_X6_productNumbered ⟨rfl, rfl⟩ ⟨Nat.le_of_ble_eq_true rfl, Nat.le_of_ble_eq_true rfl⟩ (k_recv hK hP0 rfl) ⟨hP0, hP1⟩ rfl hl.1 rfl (Nat.le_of_ble_eq_true rfl) dX6_productOf_2 ⟨Nat.le_of_ble_eq_true rfl, Nat.le_of_ble_eq_true rfl⟩ ?_
  refine lv_astore_n (lv' := [(3, .ref (o + 1 + q + 5)), (0, .ref o), (1, .int (nI q)), (2, .int (nI k))]) hx hb dX6_productOf_5 rfl hl (by decide) rfl (fun ls hl => ?_)
  rcases (by omega : k = 0 ∨ k = 1 ∨ k = 2 ∨ k = 3 ∨ k = 4 ∨ k = 5) with rfl | rfl | rfl | rfl | rfl | rfl
  · have hl : lv_has ls 4 [(3, .ref (o + 1 + q + 5)), (0, .ref o), (1, .int (nI q)), (2, .int (nI 0))] := hl
    refine lv_iload_n hx hb dX6_productOf_6 rfl (lv_at hl 3 rfl) ?_
    refine lv_tableIn (off := 37) (tgt := 44) hx hb dX6_productOf_7 (by decide) (by decide) (by decide) (by decide) ?_
    refine lv_aload_n hx hb dX6_productOf_44 rfl (lv_at hl 0 rfl) ?_
    refine k_get S hK (dz_p hP1 q hq6) rfl (fun _ h => List.mem_cons_of_mem _ (List.mem_append_left _ (List.mem_append_left _ (List.mem_append_left _ (List.mem_append_left _ (List.mem_append_left _ (List.mem_append_right _ (h)))))))) 0 (by decide) (List.mem_cons_of_mem _ (List.mem_append_left _ (List.mem_append_left _ (List.mem_append_left _ (List.mem_append_left _ (List.mem_append_left _ (List.mem_append_left _ (List.mem_append_left _ (List.mem_of_getElem? (i := 2) rfl))))))))) rfl (v := .int (z (3*q + 12))) rfl dX6_productOf_45 ?_
    exact k_iret hx hb hr hlk dX6_productOf_48 (rfl)
  · have hl : lv_has ls 4 [(3, .ref (o + 1 + q + 5)), (0, .ref o), (1, .int (nI q)), (2, .int (nI 1))] := hl
    refine lv_iload_n hx hb dX6_productOf_6 rfl (lv_at hl 3 rfl) ?_
    refine lv_tableIn (off := 42) (tgt := 49) hx hb dX6_productOf_7 (by decide) (by decide) (by decide) (by decide) ?_
    refine lv_aload_n hx hb dX6_productOf_49 rfl (lv_at hl 0 rfl) ?_
    have hq1 := iv_pvl hI hq6
    refine k_get S hK (dz_p hP1 q hq6) rfl (fun _ h => List.mem_cons_of_mem _ (List.mem_append_left _ (List.mem_append_left _ (List.mem_append_left _ (List.mem_append_left _ (List.mem_append_left _ (List.mem_append_right _ (h)))))))) 1 (by decide) (List.mem_cons_of_mem _ (List.mem_append_left _ (List.mem_append_left _ (List.mem_append_left _ (List.mem_append_left _ (List.mem_append_left _ (List.mem_append_left _ (List.mem_append_left _ (List.mem_of_getElem? (i := 3) rfl))))))))) rfl (v := .int (nI (pv z q))) (congrArg (fun x => some (Value.int x)) ((iv_pv hI hq6))) dX6_productOf_50 ?_
    exact k_iret hx hb hr hlk dX6_productOf_53 (rfl)
  · have hl : lv_has ls 4 [(3, .ref (o + 1 + q + 5)), (0, .ref o), (1, .int (nI q)), (2, .int (nI 2))] := hl
    refine lv_iload_n hx hb dX6_productOf_6 rfl (lv_at hl 3 rfl) ?_
    refine lv_tableIn (off := 47) (tgt := 54) hx hb dX6_productOf_7 (by decide) (by decide) (by decide) (by decide) ?_
    refine lv_aload_n hx hb dX6_productOf_54 rfl (lv_at hl 0 rfl) ?_
    refine k_get S hK (dz_p hP1 q hq6) rfl (fun _ h => List.mem_cons_of_mem _ (List.mem_append_left _ (List.mem_append_left _ (List.mem_append_left _ (List.mem_append_left _ (List.mem_append_left _ (List.mem_append_right _ (h)))))))) 2 (by decide) (List.mem_cons_of_mem _ (List.mem_append_left _ (List.mem_append_left _ (List.mem_append_left _ (List.mem_append_left _ (List.mem_append_left _ (List.mem_append_left _ (List.mem_append_left _ (List.mem_of_getElem? (i := 4) rfl))))))))) rfl (v := .int (z (3*q + 14))) rfl dX6_productOf_55 ?_
    refine lv_if_eq (tgt := 65) hx hb dX6_productOf_58 (by decide) (fun c58 => ?_) (fun c58 => ?_)
    · refine lv_iconst (v := nI 0) hx hb dX6_productOf_65 (by decide) ?_
      exact k_iret hx hb hr hlk dX6_productOf_66 (c58)
    · refine lv_iconst (v := nI 1) hx hb dX6_productOf_61 (by decide) ?_
      refine lv_goto (tgt := 66) hx hb dX6_productOf_62 (by decide) ?_
      exact k_iret hx hb hr hlk dX6_productOf_66 (z01 (hI.2.2.2.1 q hq6).2.2 c58)
  · have hl : lv_has ls 4 [(3, .ref (o + 1 + q + 5)), (0, .ref o), (1, .int (nI q)), (2, .int (nI 3))] := hl
    refine lv_iload_n hx hb dX6_productOf_6 rfl (lv_at hl 3 rfl) ?_
    refine lv_tableIn (off := 60) (tgt := 67) hx hb dX6_productOf_7 (by decide) (by decide) (by decide) (by decide) ?_
    refine lv_aload_n hx hb dX6_productOf_67 rfl (lv_at hl 1 rfl) ?_
    refine k_get S hK hP0 rfl (fun _ h => List.mem_cons_of_mem _ (List.mem_append_left _ (List.mem_append_left _ (List.mem_append_left _ (List.mem_append_left _ (List.mem_append_right _ (h))))))) 0 (by decide) (List.mem_cons_of_mem _ (List.mem_append_left _ (List.mem_append_left _ (List.mem_append_left _ (List.mem_append_left _ (List.mem_append_left _ (List.mem_append_left _ (List.mem_append_left _ (List.mem_of_getElem? (i := 5) rfl))))))))) rfl (v := .ref (o + 1)) rfl dX6_productOf_68 ?_
    refine lv_iload_n hx hb dX6_productOf_71 rfl (lv_at hl 2 rfl) ?_
    refine lv_iconst (v := nI 0) hx hb dX6_productOf_72 (by decide) ?_
    refine lv_iconst (v := nI 4) hx hb dX6_productOf_73 (by decide) ?_
    refine k_V (As := [.int (nI q), .int (nI 0), .int (nI 4)]) (rest := []) S hK (c_X1_unitsOf_04 l E (o + 1) z q hI hq6) gX6_productOf_X1_unitsOf rfl hd_X1_unitsOf ⟨rfl, rfl⟩ ⟨Nat.le_of_ble_eq_true rfl, Nat.le_of_ble_eq_true rfl⟩ (k_recv hK (dz_d hP1) rfl) hP1 rfl hl.1 rfl (Nat.le_of_ble_eq_true rfl) dX6_productOf_74 ⟨Nat.le_of_ble_eq_true rfl, Nat.le_of_ble_eq_true rfl⟩ ?_
    exact k_iret hx hb hr hlk dX6_productOf_77 (rfl)
  · have hl : lv_has ls 4 [(3, .ref (o + 1 + q + 5)), (0, .ref o), (1, .int (nI q)), (2, .int (nI 4))] := hl
    refine lv_iload_n hx hb dX6_productOf_6 rfl (lv_at hl 3 rfl) ?_
    refine lv_tableIn (off := 71) (tgt := 78) hx hb dX6_productOf_7 (by decide) (by decide) (by decide) (by decide) ?_
    refine lv_aload_n hx hb dX6_productOf_78 rfl (lv_at hl 1 rfl) ?_
    refine k_get S hK hP0 rfl (fun _ h => List.mem_cons_of_mem _ (List.mem_append_left _ (List.mem_append_left _ (List.mem_append_left _ (List.mem_append_left _ (List.mem_append_right _ (h))))))) 0 (by decide) (List.mem_cons_of_mem _ (List.mem_append_left _ (List.mem_append_left _ (List.mem_append_left _ (List.mem_append_left _ (List.mem_append_left _ (List.mem_append_left _ (List.mem_append_left _ (List.mem_of_getElem? (i := 5) rfl))))))))) rfl (v := .ref (o + 1)) rfl dX6_productOf_79 ?_
    refine lv_iload_n hx hb dX6_productOf_82 rfl (lv_at hl 2 rfl) ?_
    refine lv_iconst (v := nI 0) hx hb dX6_productOf_83 (by decide) ?_
    refine lv_iconst (v := nI 1) hx hb dX6_productOf_84 (by decide) ?_
    refine k_V (As := [.int (nI q), .int (nI 0), .int (nI 1)]) (rest := []) S hK (c_X1_unitsOf_01 l E (o + 1) z q hI hq6) gX6_productOf_X1_unitsOf rfl hd_X1_unitsOf ⟨rfl, rfl⟩ ⟨Nat.le_of_ble_eq_true rfl, Nat.le_of_ble_eq_true rfl⟩ (k_recv hK (dz_d hP1) rfl) hP1 rfl hl.1 rfl (Nat.le_of_ble_eq_true rfl) dX6_productOf_85 ⟨Nat.le_of_ble_eq_true rfl, Nat.le_of_ble_eq_true rfl⟩ ?_
    exact k_iret hx hb hr hlk dX6_productOf_88 (rfl)
  · have hl : lv_has ls 4 [(3, .ref (o + 1 + q + 5)), (0, .ref o), (1, .int (nI q)), (2, .int (nI 5))] := hl
    refine lv_iload_n hx hb dX6_productOf_6 rfl (lv_at hl 3 rfl) ?_
    refine lv_tableIn (off := 82) (tgt := 89) hx hb dX6_productOf_7 (by decide) (by decide) (by decide) (by decide) ?_
    refine lv_aload_n hx hb dX6_productOf_89 rfl (lv_at hl 1 rfl) ?_
    refine k_get S hK hP0 rfl (fun _ h => List.mem_cons_of_mem _ (List.mem_append_left _ (List.mem_append_left _ (List.mem_append_left _ (List.mem_append_left _ (List.mem_append_right _ (h))))))) 0 (by decide) (List.mem_cons_of_mem _ (List.mem_append_left _ (List.mem_append_left _ (List.mem_append_left _ (List.mem_append_left _ (List.mem_append_left _ (List.mem_append_left _ (List.mem_append_left _ (List.mem_of_getElem? (i := 5) rfl))))))))) rfl (v := .ref (o + 1)) rfl dX6_productOf_90 ?_
    refine lv_iload_n hx hb dX6_productOf_93 rfl (lv_at hl 2 rfl) ?_
    refine lv_iconst (v := nI 2) hx hb dX6_productOf_94 (by decide) ?_
    refine lv_iconst (v := nI 2) hx hb dX6_productOf_95 (by decide) ?_
    refine k_V (As := [.int (nI q), .int (nI 2), .int (nI 2)]) (rest := []) S hK (c_X1_unitsOf_22 l E (o + 1) z q hI hq6) gX6_productOf_X1_unitsOf rfl hd_X1_unitsOf ⟨rfl, rfl⟩ ⟨Nat.le_of_ble_eq_true rfl, Nat.le_of_ble_eq_true rfl⟩ (k_recv hK (dz_d hP1) rfl) hP1 rfl hl.1 rfl (Nat.le_of_ble_eq_true rfl) dX6_productOf_96 ⟨Nat.le_of_ble_eq_true rfl, Nat.le_of_ble_eq_true rfl⟩ ?_
    exact k_iret hx hb hr hlk dX6_productOf_99 (rfl)
def rm_X6_vendor : Room := { frames := 3, cells := 0, slots := 0, locals := 63 }
theorem hd_X6_vendor : k_hd1 yX6_vendor RX6 2 := by decide +kernel
set_option maxHeartbeats 4000000 in
set_option maxRecDepth 100000 in
theorem c_X6_vendor (l : Launch) (E : ke_E) (o : Nat) (z : Nat → Int32) (v : Nat) (k : Nat) (hI : iv z) (hv4 : v < 4) (hk : k < 10) : Met l yX6_vendor wsX6_vendor rm_X6_vendor (kp E [.ref o, .int (nI v), .int (nI k)] (fun H => gg E o H ∧ dz E (o + 1) z H)) (qp (some (.int (veV z v k)))) 0 0 nof := by
  refine k_hd (cc := cX6_vendor) (maxL := 4) (ret := (some .int)) (by decide) rfl (Nat.le_of_ble_eq_true rfl) ?_
  intro p e s m below meth c ls S hr hlk hnm hK hP hl
  have hx := S.1
  have hb := S.2.1
  have hts := S.2.2.2.2
  obtain ⟨hP0, hP1⟩ := hP
  have hl : lv_has ls 4 [(0, .ref o), (1, .int (nI v)), (2, .int (nI k))] := hl
  have hc20 := iv_c hI
  refine lv_aload_n hx hb dX6_vendor_0 rfl (lv_at hl 0 rfl) ?_
  refine lv_iload_n hx hb dX6_vendor_1 rfl (lv_at hl 1 rfl) ?_
  refine k_V (As := [.int (nI v)]) (rest := []) S hK (c_X6_vendorNumbered l E o z v hI hv4) gX6_vendor_X6_vendorNumbered rfl hd_X6_vendorNumbered ⟨rfl, rfl⟩ ⟨Nat.le_of_ble_eq_true rfl, Nat.le_of_ble_eq_true rfl⟩ (k_recv hK hP0 rfl) ⟨hP0, hP1⟩ rfl hl.1 rfl (Nat.le_of_ble_eq_true rfl) dX6_vendor_2 ⟨Nat.le_of_ble_eq_true rfl, Nat.le_of_ble_eq_true rfl⟩ ?_
  refine lv_astore_n (lv' := [(3, .ref (o + 1 + 2*v + 11)), (0, .ref o), (1, .int (nI v)), (2, .int (nI k))]) hx hb dX6_vendor_5 rfl hl (by decide) rfl (fun ls hl => ?_)
  rcases (by omega : k = 0 ∨ k = 1 ∨ k = 2 ∨ k = 3 ∨ k = 4 ∨ k = 5 ∨ k = 6 ∨ k = 7 ∨ k = 8 ∨ k = 9) with rfl | rfl | rfl | rfl | rfl | rfl | rfl | rfl | rfl | rfl
  · have hl : lv_has ls 4 [(3, .ref (o + 1 + 2*v + 11)), (0, .ref o), (1, .int (nI v)), (2, .int (nI 0))] := hl
    refine lv_iload_n hx hb dX6_vendor_6 rfl (lv_at hl 3 rfl) ?_
    refine lv_tableIn (off := 53) (tgt := 60) hx hb dX6_vendor_7 (by decide) (by decide) (by decide) (by decide) ?_
    refine lv_aload_n hx hb dX6_vendor_60 rfl (lv_at hl 0 rfl) ?_
    refine k_get S hK (dz_v hP1 v hv4) rfl (fun _ h => List.mem_cons_of_mem _ (List.mem_append_left _ (List.mem_append_left _ (List.mem_append_left _ (List.mem_append_left _ (List.mem_append_left _ (List.mem_append_right _ (h)))))))) 1 (by decide) (List.mem_cons_of_mem _ (List.mem_append_left _ (List.mem_append_left _ (List.mem_append_left _ (List.mem_append_left _ (List.mem_append_left _ (List.mem_append_left _ (List.mem_append_left _ (List.mem_of_getElem? (i := 2) rfl))))))))) rfl (v := .int (z (8*v + 30))) rfl dX6_vendor_61 ?_
    exact k_iret hx hb hr hlk dX6_vendor_64 (rfl)
  · have hl : lv_has ls 4 [(3, .ref (o + 1 + 2*v + 11)), (0, .ref o), (1, .int (nI v)), (2, .int (nI 1))] := hl
    refine lv_iload_n hx hb dX6_vendor_6 rfl (lv_at hl 3 rfl) ?_
    refine lv_tableIn (off := 58) (tgt := 65) hx hb dX6_vendor_7 (by decide) (by decide) (by decide) (by decide) ?_
    refine lv_aload_n hx hb dX6_vendor_65 rfl (lv_at hl 0 rfl) ?_
    refine k_get S hK (dz_v hP1 v hv4) rfl (fun _ h => List.mem_cons_of_mem _ (List.mem_append_left _ (List.mem_append_left _ (List.mem_append_left _ (List.mem_append_left _ (List.mem_append_left _ (List.mem_append_right _ (h)))))))) 2 (by decide) (List.mem_cons_of_mem _ (List.mem_append_left _ (List.mem_append_left _ (List.mem_append_left _ (List.mem_append_left _ (List.mem_append_left _ (List.mem_append_left _ (List.mem_append_left _ (List.mem_of_getElem? (i := 3) rfl))))))))) rfl (v := .int (z (8*v + 31))) rfl dX6_vendor_66 ?_
    exact k_iret hx hb hr hlk dX6_vendor_69 (rfl)
  · have hl : lv_has ls 4 [(3, .ref (o + 1 + 2*v + 11)), (0, .ref o), (1, .int (nI v)), (2, .int (nI 2))] := hl
    refine lv_iload_n hx hb dX6_vendor_6 rfl (lv_at hl 3 rfl) ?_
    refine lv_tableIn (off := 63) (tgt := 70) hx hb dX6_vendor_7 (by decide) (by decide) (by decide) (by decide) ?_
    refine lv_aload_n hx hb dX6_vendor_70 rfl (lv_at hl 0 rfl) ?_
    refine k_get S hK (dz_v hP1 v hv4) rfl (fun _ h => List.mem_cons_of_mem _ (List.mem_append_left _ (List.mem_append_left _ (List.mem_append_left _ (List.mem_append_left _ (List.mem_append_left _ (List.mem_append_right _ (h)))))))) 3 (by decide) (List.mem_cons_of_mem _ (List.mem_append_left _ (List.mem_append_left _ (List.mem_append_left _ (List.mem_append_left _ (List.mem_append_left _ (List.mem_append_left _ (List.mem_append_left _ (List.mem_of_getElem? (i := 4) rfl))))))))) rfl (v := .int (z (8*v + 32))) rfl dX6_vendor_71 ?_
    exact k_iret hx hb hr hlk dX6_vendor_74 (rfl)
  · have hl : lv_has ls 4 [(3, .ref (o + 1 + 2*v + 11)), (0, .ref o), (1, .int (nI v)), (2, .int (nI 3))] := hl
    refine lv_iload_n hx hb dX6_vendor_6 rfl (lv_at hl 3 rfl) ?_
    refine lv_tableIn (off := 68) (tgt := 75) hx hb dX6_vendor_7 (by decide) (by decide) (by decide) (by decide) ?_
    refine lv_aload_n hx hb dX6_vendor_75 rfl (lv_at hl 0 rfl) ?_
    refine k_get S hK (dz_v hP1 v hv4) rfl (fun _ h => List.mem_cons_of_mem _ (List.mem_append_left _ (List.mem_append_left _ (List.mem_append_left _ (List.mem_append_left _ (List.mem_append_left _ (List.mem_append_right _ (h)))))))) 4 (by decide) (List.mem_cons_of_mem _ (List.mem_append_left _ (List.mem_append_left _ (List.mem_append_left _ (List.mem_append_left _ (List.mem_append_left _ (List.mem_append_left _ (List.mem_append_left _ (List.mem_of_getElem? (i := 5) rfl))))))))) rfl (v := .int (z (8*v + 33))) rfl dX6_vendor_76 ?_
    exact k_iret hx hb hr hlk dX6_vendor_79 (rfl)
  · have hl : lv_has ls 4 [(3, .ref (o + 1 + 2*v + 11)), (0, .ref o), (1, .int (nI v)), (2, .int (nI 4))] := hl
    refine lv_iload_n hx hb dX6_vendor_6 rfl (lv_at hl 3 rfl) ?_
    refine lv_tableIn (off := 73) (tgt := 80) hx hb dX6_vendor_7 (by decide) (by decide) (by decide) (by decide) ?_
    refine lv_aload_n hx hb dX6_vendor_80 rfl (lv_at hl 1 rfl) ?_
    refine k_get S hK hP0 rfl (fun _ h => List.mem_cons_of_mem _ (List.mem_append_left _ (List.mem_append_left _ (List.mem_append_left _ (List.mem_append_left _ (List.mem_append_right _ (h))))))) 0 (by decide) (List.mem_cons_of_mem _ (List.mem_append_left _ (List.mem_append_left _ (List.mem_append_left _ (List.mem_append_left _ (List.mem_append_left _ (List.mem_append_left _ (List.mem_append_left _ (List.mem_of_getElem? (i := 6) rfl))))))))) rfl (v := .ref (o + 1)) rfl dX6_vendor_81 ?_
    refine lv_iload_n hx hb dX6_vendor_84 rfl (lv_at hl 2 rfl) ?_
    refine k_V (As := [.int (nI v)]) (rest := []) S hK (c_X1_claimsWaitingOn l E (o + 1) z v hI hv4) gX6_vendor_X1_claimsWaitingOn rfl hd_X1_claimsWaitingOn ⟨rfl, rfl⟩ ⟨Nat.le_of_ble_eq_true rfl, Nat.le_of_ble_eq_true rfl⟩ (k_recv hK (dz_d hP1) rfl) hP1 rfl hl.1 rfl (Nat.le_of_ble_eq_true rfl) dX6_vendor_85 ⟨Nat.le_of_ble_eq_true rfl, Nat.le_of_ble_eq_true rfl⟩ ?_
    exact k_iret hx hb hr hlk dX6_vendor_88 (rfl)
  · have hl : lv_has ls 4 [(3, .ref (o + 1 + 2*v + 11)), (0, .ref o), (1, .int (nI v)), (2, .int (nI 5))] := hl
    refine lv_iload_n hx hb dX6_vendor_6 rfl (lv_at hl 3 rfl) ?_
    refine lv_tableIn (off := 82) (tgt := 89) hx hb dX6_vendor_7 (by decide) (by decide) (by decide) (by decide) ?_
    refine lv_aload_n hx hb dX6_vendor_89 rfl (lv_at hl 1 rfl) ?_
    refine k_get S hK hP0 rfl (fun _ h => List.mem_cons_of_mem _ (List.mem_append_left _ (List.mem_append_left _ (List.mem_append_left _ (List.mem_append_left _ (List.mem_append_right _ (h))))))) 0 (by decide) (List.mem_cons_of_mem _ (List.mem_append_left _ (List.mem_append_left _ (List.mem_append_left _ (List.mem_append_left _ (List.mem_append_left _ (List.mem_append_left _ (List.mem_append_left _ (List.mem_of_getElem? (i := 6) rfl))))))))) rfl (v := .ref (o + 1)) rfl dX6_vendor_90 ?_
    refine lv_iload_n hx hb dX6_vendor_93 rfl (lv_at hl 2 rfl) ?_
    refine k_V (As := [.int (nI v)]) (rest := []) S hK (c_X1_amountWaitingOn l E (o + 1) z v hI hv4) gX6_vendor_X1_amountWaitingOn rfl hd_X1_amountWaitingOn ⟨rfl, rfl⟩ ⟨Nat.le_of_ble_eq_true rfl, Nat.le_of_ble_eq_true rfl⟩ (k_recv hK (dz_d hP1) rfl) hP1 rfl hl.1 rfl (Nat.le_of_ble_eq_true rfl) dX6_vendor_94 ⟨Nat.le_of_ble_eq_true rfl, Nat.le_of_ble_eq_true rfl⟩ ?_
    exact k_iret hx hb hr hlk dX6_vendor_97 (rfl)
  · have hl : lv_has ls 4 [(3, .ref (o + 1 + 2*v + 11)), (0, .ref o), (1, .int (nI v)), (2, .int (nI 6))] := hl
    refine lv_iload_n hx hb dX6_vendor_6 rfl (lv_at hl 3 rfl) ?_
    refine lv_tableIn (off := 91) (tgt := 98) hx hb dX6_vendor_7 (by decide) (by decide) (by decide) (by decide) ?_
    refine lv_aload_n hx hb dX6_vendor_98 rfl (lv_at hl 0 rfl) ?_
    refine k_get S hK (dz_v hP1 v hv4) rfl (fun _ h => List.mem_cons_of_mem _ (List.mem_append_left _ (List.mem_append_left _ (List.mem_append_left _ (List.mem_append_left _ (List.mem_append_left _ (List.mem_append_right _ (h)))))))) 0 (by decide) (List.mem_cons_of_mem _ (List.mem_append_left _ (List.mem_append_left _ (List.mem_append_left _ (List.mem_append_left _ (List.mem_append_left _ (List.mem_append_left _ (List.mem_append_left _ (List.mem_of_getElem? (i := 7) rfl))))))))) rfl (v := .ref (o + 1 + 2*v + 12)) rfl dX6_vendor_99 ?_
    refine lv_iconst (v := nI 0) hx hb dX6_vendor_102 (by decide) ?_
    refine k_iald hx hb hK (dz_ag hP1 v hv4) (by omega) (by decide) (v := z (8*v + 34)) (congrArg _ (show 8*v + 0 + 34 = 8*v + 34 by omega)) dX6_vendor_103 ?_
    exact k_iret hx hb hr hlk dX6_vendor_104 (rfl)
  · have hl : lv_has ls 4 [(3, .ref (o + 1 + 2*v + 11)), (0, .ref o), (1, .int (nI v)), (2, .int (nI 7))] := hl
    refine lv_iload_n hx hb dX6_vendor_6 rfl (lv_at hl 3 rfl) ?_
    refine lv_tableIn (off := 98) (tgt := 105) hx hb dX6_vendor_7 (by decide) (by decide) (by decide) (by decide) ?_
    refine lv_aload_n hx hb dX6_vendor_105 rfl (lv_at hl 0 rfl) ?_
    refine k_get S hK (dz_v hP1 v hv4) rfl (fun _ h => List.mem_cons_of_mem _ (List.mem_append_left _ (List.mem_append_left _ (List.mem_append_left _ (List.mem_append_left _ (List.mem_append_left _ (List.mem_append_right _ (h)))))))) 0 (by decide) (List.mem_cons_of_mem _ (List.mem_append_left _ (List.mem_append_left _ (List.mem_append_left _ (List.mem_append_left _ (List.mem_append_left _ (List.mem_append_left _ (List.mem_append_left _ (List.mem_of_getElem? (i := 7) rfl))))))))) rfl (v := .ref (o + 1 + 2*v + 12)) rfl dX6_vendor_106 ?_
    refine lv_iconst (v := nI 1) hx hb dX6_vendor_109 (by decide) ?_
    refine k_iald hx hb hK (dz_ag hP1 v hv4) (by omega) (by decide) (v := z (8*v + 35)) (congrArg _ (show 8*v + 1 + 34 = 8*v + 35 by omega)) dX6_vendor_110 ?_
    exact k_iret hx hb hr hlk dX6_vendor_111 (rfl)
  · have hl : lv_has ls 4 [(3, .ref (o + 1 + 2*v + 11)), (0, .ref o), (1, .int (nI v)), (2, .int (nI 8))] := hl
    refine lv_iload_n hx hb dX6_vendor_6 rfl (lv_at hl 3 rfl) ?_
    refine lv_tableIn (off := 105) (tgt := 112) hx hb dX6_vendor_7 (by decide) (by decide) (by decide) (by decide) ?_
    refine lv_aload_n hx hb dX6_vendor_112 rfl (lv_at hl 0 rfl) ?_
    refine k_get S hK (dz_v hP1 v hv4) rfl (fun _ h => List.mem_cons_of_mem _ (List.mem_append_left _ (List.mem_append_left _ (List.mem_append_left _ (List.mem_append_left _ (List.mem_append_left _ (List.mem_append_right _ (h)))))))) 0 (by decide) (List.mem_cons_of_mem _ (List.mem_append_left _ (List.mem_append_left _ (List.mem_append_left _ (List.mem_append_left _ (List.mem_append_left _ (List.mem_append_left _ (List.mem_append_left _ (List.mem_of_getElem? (i := 7) rfl))))))))) rfl (v := .ref (o + 1 + 2*v + 12)) rfl dX6_vendor_113 ?_
    refine lv_iconst (v := nI 2) hx hb dX6_vendor_116 (by decide) ?_
    refine k_iald hx hb hK (dz_ag hP1 v hv4) (by omega) (by decide) (v := z (8*v + 36)) (congrArg _ (show 8*v + 2 + 34 = 8*v + 36 by omega)) dX6_vendor_117 ?_
    exact k_iret hx hb hr hlk dX6_vendor_118 (rfl)
  · have hl : lv_has ls 4 [(3, .ref (o + 1 + 2*v + 11)), (0, .ref o), (1, .int (nI v)), (2, .int (nI 9))] := hl
    refine lv_iload_n hx hb dX6_vendor_6 rfl (lv_at hl 3 rfl) ?_
    refine lv_tableIn (off := 112) (tgt := 119) hx hb dX6_vendor_7 (by decide) (by decide) (by decide) (by decide) ?_
    refine lv_aload_n hx hb dX6_vendor_119 rfl (lv_at hl 0 rfl) ?_
    refine k_get S hK (dz_v hP1 v hv4) rfl (fun _ h => List.mem_cons_of_mem _ (List.mem_append_left _ (List.mem_append_left _ (List.mem_append_left _ (List.mem_append_left _ (List.mem_append_left _ (List.mem_append_right _ (h)))))))) 0 (by decide) (List.mem_cons_of_mem _ (List.mem_append_left _ (List.mem_append_left _ (List.mem_append_left _ (List.mem_append_left _ (List.mem_append_left _ (List.mem_append_left _ (List.mem_append_left _ (List.mem_of_getElem? (i := 7) rfl))))))))) rfl (v := .ref (o + 1 + 2*v + 12)) rfl dX6_vendor_120 ?_
    refine lv_iconst (v := nI 3) hx hb dX6_vendor_123 (by decide) ?_
    refine k_iald hx hb hK (dz_ag hP1 v hv4) (by omega) (by decide) (v := z (8*v + 37)) (congrArg _ (show 8*v + 3 + 34 = 8*v + 37 by omega)) dX6_vendor_124 ?_
    exact k_iret hx hb hr hlk dX6_vendor_125 (rfl)
def rm_X6_inWorkshop : Room := { frames := 6, cells := 0, slots := 0, locals := 133 }
theorem hd_X6_inWorkshop : k_hd1 yX6_inWorkshop RX6 1 := by decide +kernel
set_option maxHeartbeats 4000000 in
set_option maxRecDepth 100000 in
theorem c_X6_inWorkshop (l : Launch) (E : ke_E) (o : Nat) (z : Nat → Int32) (n : Nat) (hI : iv z) (hn : n < 20) : Met l yX6_inWorkshop wsX6_inWorkshop rm_X6_inWorkshop (kp E [.ref o, .int (nI n)] (fun H => gg E o H ∧ dz E (o + 1) z H)) (qp (some (.int (oI (wa z n).2)))) 0 0 nof := by
  refine k_hd (cc := cX6_inWorkshop) (maxL := 2) (ret := (some .int)) (by decide) rfl (Nat.le_of_ble_eq_true rfl) ?_
  intro p e s m below meth c ls S hr hlk hnm hK hP hl
  have hx := S.1
  have hb := S.2.1
  have hts := S.2.2.2.2
  obtain ⟨hP0, hP1⟩ := hP
  have hl : lv_has ls 2 [(0, .ref o), (1, .int (nI n))] := hl
  have hc20 := iv_c hI
  refine lv_iload_n hx hb dX6_inWorkshop_0 rfl (lv_at hl 1 rfl) ?_
  refine lv_iconst (v := nI 0) hx hb dX6_inWorkshop_1 (by decide) ?_
  refine lv_bipush (v := nI 19) hx hb dX6_inWorkshop_2 (by decide) ?_
  refine k_S (As := [.int (nI n), .int (nI 0), .int (nI 19)]) (rest := []) S hK (c_X6_requireRange l E 0 19 (nI n) (in_n (by omega) (by omega) (by omega))) gX6_inWorkshop_X6_requireRange rfl hd_X6_requireRange ⟨rfl, rfl⟩ ⟨Nat.le_of_ble_eq_true rfl, Nat.le_of_ble_eq_true rfl⟩ trivial rfl hl.1 rfl (Nat.le_of_ble_eq_true rfl) dX6_inWorkshop_4 ⟨Nat.le_of_ble_eq_true rfl, Nat.le_of_ble_eq_true rfl⟩ ?_
  refine lv_aload_n hx hb dX6_inWorkshop_7 rfl (lv_at hl 0 rfl) ?_
  refine k_get S hK hP0 rfl (fun _ h => List.mem_cons_of_mem _ (List.mem_append_left _ (List.mem_append_left _ (List.mem_append_left _ (List.mem_append_left _ (List.mem_append_right _ (h))))))) 0 (by decide) (List.mem_cons_of_mem _ (List.mem_append_left _ (List.mem_append_left _ (List.mem_append_left _ (List.mem_append_left _ (List.mem_append_left _ (List.mem_append_left _ (List.mem_of_getElem? (i := 0) rfl)))))))) rfl (v := .ref (o + 1)) rfl dX6_inWorkshop_8 ?_
  refine lv_iload_n hx hb dX6_inWorkshop_11 rfl (lv_at hl 1 rfl) ?_
  refine lv_iconst (v := nI 0) hx hb dX6_inWorkshop_12 (by decide) ?_
  refine k_V (As := [.int (nI n), .int (nI 0)]) (rest := []) S hK (c_X1_numberAt_0 l E (o + 1) z n hI hn) gX6_inWorkshop_X1_numberAt rfl hd_X1_numberAt ⟨rfl, rfl⟩ ⟨Nat.le_of_ble_eq_true rfl, Nat.le_of_ble_eq_true rfl⟩ (k_recv hK (dz_d hP1) rfl) hP1 rfl hl.1 rfl (Nat.le_of_ble_eq_true rfl) dX6_inWorkshop_13 ⟨Nat.le_of_ble_eq_true rfl, Nat.le_of_ble_eq_true rfl⟩ ?_
  exact k_iret hx hb hr hlk dX6_inWorkshop_16 (congrArg oI (wa_rk hI n).1)
def rm_X6_waiting : Room := { frames := 5, cells := 0, slots := 0, locals := 113 }
theorem hd_X6_waiting : k_hd1 yX6_waiting RX6 1 := by decide +kernel
set_option maxHeartbeats 4000000 in
set_option maxRecDepth 100000 in
theorem c_X6_waiting (l : Launch) (E : ke_E) (o : Nat) (z : Nat → Int32) (n : Nat) (hI : iv z) (hn : n < 20) : Met l yX6_waiting wsX6_waiting rm_X6_waiting (kp E [.ref o, .int (nI n)] (fun H => gg E o H ∧ dz E (o + 1) z H)) (qp (some (.int (oI (ca z n).2)))) 0 0 nof := by
  refine k_hd (cc := cX6_waiting) (maxL := 2) (ret := (some .int)) (by decide) rfl (Nat.le_of_ble_eq_true rfl) ?_
  intro p e s m below meth c ls S hr hlk hnm hK hP hl
  have hx := S.1
  have hb := S.2.1
  have hts := S.2.2.2.2
  obtain ⟨hP0, hP1⟩ := hP
  have hl : lv_has ls 2 [(0, .ref o), (1, .int (nI n))] := hl
  have hc20 := iv_c hI
  refine lv_iload_n hx hb dX6_waiting_0 rfl (lv_at hl 1 rfl) ?_
  refine lv_iconst (v := nI 0) hx hb dX6_waiting_1 (by decide) ?_
  refine lv_bipush (v := nI 19) hx hb dX6_waiting_2 (by decide) ?_
  refine k_S (As := [.int (nI n), .int (nI 0), .int (nI 19)]) (rest := []) S hK (c_X6_requireRange l E 0 19 (nI n) (in_n (by omega) (by omega) (by omega))) gX6_waiting_X6_requireRange rfl hd_X6_requireRange ⟨rfl, rfl⟩ ⟨Nat.le_of_ble_eq_true rfl, Nat.le_of_ble_eq_true rfl⟩ trivial rfl hl.1 rfl (Nat.le_of_ble_eq_true rfl) dX6_waiting_4 ⟨Nat.le_of_ble_eq_true rfl, Nat.le_of_ble_eq_true rfl⟩ ?_
  refine lv_aload_n hx hb dX6_waiting_7 rfl (lv_at hl 0 rfl) ?_
  refine k_get S hK hP0 rfl (fun _ h => List.mem_cons_of_mem _ (List.mem_append_left _ (List.mem_append_left _ (List.mem_append_left _ (List.mem_append_left _ (List.mem_append_right _ (h))))))) 0 (by decide) (List.mem_cons_of_mem _ (List.mem_append_left _ (List.mem_append_left _ (List.mem_append_left _ (List.mem_append_left _ (List.mem_append_left _ (List.mem_append_left _ (List.mem_of_getElem? (i := 0) rfl)))))))) rfl (v := .ref (o + 1)) rfl dX6_waiting_8 ?_
  refine lv_iload_n hx hb dX6_waiting_11 rfl (lv_at hl 1 rfl) ?_
  refine lv_iconst (v := nI 2) hx hb dX6_waiting_12 (by decide) ?_
  refine k_V (As := [.int (nI n), .int (nI 2)]) (rest := []) S hK (c_X1_numberAt_2 l E (o + 1) z n hI hn) gX6_waiting_X1_numberAt rfl hd_X1_numberAt ⟨rfl, rfl⟩ ⟨Nat.le_of_ble_eq_true rfl, Nat.le_of_ble_eq_true rfl⟩ (k_recv hK (dz_d hP1) rfl) hP1 rfl hl.1 rfl (Nat.le_of_ble_eq_true rfl) dX6_waiting_13 ⟨Nat.le_of_ble_eq_true rfl, Nat.le_of_ble_eq_true rfl⟩ ?_
  exact k_iret hx hb hr hlk dX6_waiting_16 (congrArg oI (ca_rk hI n).1)
def rm_X6_count : Room := { frames := 4, cells := 0, slots := 0, locals := 85 }
theorem hd_X6_count : k_hd1 yX6_count RX6 1 := by decide +kernel
set_option maxHeartbeats 4000000 in
set_option maxRecDepth 100000 in
theorem c_X6_count (l : Launch) (E : ke_E) (o : Nat) (z : Nat → Int32) (sn : Nat) (r : Nat → Int32) (k : Nat) (hI : iv z) (hJ : jw z) (hk : k < 14) : Met l yX6_count wsX6_count rm_X6_count (kp E [.ref o, .int (nI k)] (fun H => gg E o H ∧ dz E (o + 1) z H ∧ hy E (o + 119) sn r H)) (qp (some (.int (coV z (nI sn) k)))) 0 0 nof := by
  refine k_hd (cc := cX6_count) (maxL := 2) (ret := (some .int)) (by decide) rfl (Nat.le_of_ble_eq_true rfl) ?_
  intro p e s m below meth c ls S hr hlk hnm hK hP hl
  have hx := S.1
  have hb := S.2.1
  have hts := S.2.2.2.2
  obtain ⟨hP0, hP1, hP2⟩ := hP
  have hl : lv_has ls 2 [(0, .ref o), (1, .int (nI k))] := hl
  have hc20 := iv_c hI
  rcases (by omega : k = 0 ∨ k = 1 ∨ k = 2 ∨ k = 3 ∨ k = 4 ∨ k = 5 ∨ k = 6 ∨ k = 7 ∨ k = 8 ∨ k = 9 ∨ k = 10 ∨ k = 11 ∨ k = 12 ∨ k = 13) with rfl | rfl | rfl | rfl | rfl | rfl | rfl | rfl | rfl | rfl | rfl | rfl | rfl | rfl
  · have hl : lv_has ls 2 [(0, .ref o), (1, .int (nI 0))] := hl
    refine lv_iload_n hx hb dX6_count_0 rfl (lv_at hl 1 rfl) ?_
    refine lv_tableIn (off := 71) (tgt := 72) hx hb dX6_count_1 (by decide) (by decide) (by decide) (by decide) ?_
    refine lv_aload_n hx hb dX6_count_72 rfl (lv_at hl 0 rfl) ?_
    refine k_get S hK hP0 rfl (fun _ h => List.mem_cons_of_mem _ (List.mem_append_left _ (List.mem_append_left _ (List.mem_append_left _ (List.mem_append_left _ (List.mem_append_left _ (List.mem_append_left _ (List.mem_append_right _ (h))))))))) 0 (by decide) (List.mem_cons_of_mem _ (List.mem_append_left _ (List.mem_append_left _ (List.mem_append_left _ (List.mem_append_left _ (List.mem_append_left _ (List.mem_append_left _ (List.mem_append_left _ (List.mem_append_left _ (List.mem_of_getElem? (i := 2) rfl)))))))))) rfl (v := .ref (o + 1)) rfl dX6_count_73 ?_
    refine k_get S hK (dz_d hP1) rfl (fun _ h => List.mem_cons_of_mem _ (List.mem_append_left _ (List.mem_append_left _ (List.mem_append_left _ (List.mem_append_left _ (List.mem_append_left _ (List.mem_append_right _ (h)))))))) 4 (by decide) (List.mem_cons_of_mem _ (List.mem_append_left _ (List.mem_append_left _ (List.mem_append_left _ (List.mem_append_left _ (List.mem_append_left _ (List.mem_append_left _ (List.mem_append_left _ (List.mem_append_left _ (List.mem_of_getElem? (i := 3) rfl)))))))))) rfl (v := .int (nI (cn z))) (congrArg (fun x => some (Value.int x)) ((iv_n hI))) dX6_count_76 ?_
    exact k_iret hx hb hr hlk dX6_count_79 (rfl)
  · have hl : lv_has ls 2 [(0, .ref o), (1, .int (nI 1))] := hl
    refine lv_iload_n hx hb dX6_count_0 rfl (lv_at hl 1 rfl) ?_
    refine lv_tableIn (off := 79) (tgt := 80) hx hb dX6_count_1 (by decide) (by decide) (by decide) (by decide) ?_
    refine lv_aload_n hx hb dX6_count_80 rfl (lv_at hl 0 rfl) ?_
    refine k_get S hK hP0 rfl (fun _ h => List.mem_cons_of_mem _ (List.mem_append_left _ (List.mem_append_left _ (List.mem_append_left _ (List.mem_append_left _ (List.mem_append_left _ (List.mem_append_left _ (List.mem_append_right _ (h))))))))) 0 (by decide) (List.mem_cons_of_mem _ (List.mem_append_left _ (List.mem_append_left _ (List.mem_append_left _ (List.mem_append_left _ (List.mem_append_left _ (List.mem_append_left _ (List.mem_append_left _ (List.mem_append_left _ (List.mem_of_getElem? (i := 2) rfl)))))))))) rfl (v := .ref (o + 1)) rfl dX6_count_81 ?_
    refine lv_iconst (v := nI 0) hx hb dX6_count_84 (by decide) ?_
    refine k_V (As := [.int (nI 0)]) (rest := []) S hK (c_X1_unitsIn l E (o + 1) z (nI 0) hI) gX6_count_X1_unitsIn rfl hd_X1_unitsIn ⟨rfl, rfl⟩ ⟨Nat.le_of_ble_eq_true rfl, Nat.le_of_ble_eq_true rfl⟩ (k_recv hK (dz_d hP1) rfl) hP1 rfl hl.1 rfl (Nat.le_of_ble_eq_true rfl) dX6_count_85 ⟨Nat.le_of_ble_eq_true rfl, Nat.le_of_ble_eq_true rfl⟩ ?_
    exact k_iret hx hb hr hlk dX6_count_88 (rfl)
  · have hl : lv_has ls 2 [(0, .ref o), (1, .int (nI 2))] := hl
    refine lv_iload_n hx hb dX6_count_0 rfl (lv_at hl 1 rfl) ?_
    refine lv_tableIn (off := 88) (tgt := 89) hx hb dX6_count_1 (by decide) (by decide) (by decide) (by decide) ?_
    refine lv_aload_n hx hb dX6_count_89 rfl (lv_at hl 0 rfl) ?_
    refine k_get S hK hP0 rfl (fun _ h => List.mem_cons_of_mem _ (List.mem_append_left _ (List.mem_append_left _ (List.mem_append_left _ (List.mem_append_left _ (List.mem_append_left _ (List.mem_append_left _ (List.mem_append_right _ (h))))))))) 0 (by decide) (List.mem_cons_of_mem _ (List.mem_append_left _ (List.mem_append_left _ (List.mem_append_left _ (List.mem_append_left _ (List.mem_append_left _ (List.mem_append_left _ (List.mem_append_left _ (List.mem_append_left _ (List.mem_of_getElem? (i := 2) rfl)))))))))) rfl (v := .ref (o + 1)) rfl dX6_count_90 ?_
    refine lv_iconst (v := nI 1) hx hb dX6_count_93 (by decide) ?_
    refine k_V (As := [.int (nI 1)]) (rest := []) S hK (c_X1_unitsIn l E (o + 1) z (nI 1) hI) gX6_count_X1_unitsIn rfl hd_X1_unitsIn ⟨rfl, rfl⟩ ⟨Nat.le_of_ble_eq_true rfl, Nat.le_of_ble_eq_true rfl⟩ (k_recv hK (dz_d hP1) rfl) hP1 rfl hl.1 rfl (Nat.le_of_ble_eq_true rfl) dX6_count_94 ⟨Nat.le_of_ble_eq_true rfl, Nat.le_of_ble_eq_true rfl⟩ ?_
    exact k_iret hx hb hr hlk dX6_count_97 (rfl)
  · have hl : lv_has ls 2 [(0, .ref o), (1, .int (nI 3))] := hl
    refine lv_iload_n hx hb dX6_count_0 rfl (lv_at hl 1 rfl) ?_
    refine lv_tableIn (off := 97) (tgt := 98) hx hb dX6_count_1 (by decide) (by decide) (by decide) (by decide) ?_
    refine lv_aload_n hx hb dX6_count_98 rfl (lv_at hl 0 rfl) ?_
    refine k_get S hK hP0 rfl (fun _ h => List.mem_cons_of_mem _ (List.mem_append_left _ (List.mem_append_left _ (List.mem_append_left _ (List.mem_append_left _ (List.mem_append_left _ (List.mem_append_left _ (List.mem_append_right _ (h))))))))) 0 (by decide) (List.mem_cons_of_mem _ (List.mem_append_left _ (List.mem_append_left _ (List.mem_append_left _ (List.mem_append_left _ (List.mem_append_left _ (List.mem_append_left _ (List.mem_append_left _ (List.mem_append_left _ (List.mem_of_getElem? (i := 2) rfl)))))))))) rfl (v := .ref (o + 1)) rfl dX6_count_99 ?_
    refine lv_iconst (v := nI 2) hx hb dX6_count_102 (by decide) ?_
    refine k_V (As := [.int (nI 2)]) (rest := []) S hK (c_X1_unitsIn l E (o + 1) z (nI 2) hI) gX6_count_X1_unitsIn rfl hd_X1_unitsIn ⟨rfl, rfl⟩ ⟨Nat.le_of_ble_eq_true rfl, Nat.le_of_ble_eq_true rfl⟩ (k_recv hK (dz_d hP1) rfl) hP1 rfl hl.1 rfl (Nat.le_of_ble_eq_true rfl) dX6_count_103 ⟨Nat.le_of_ble_eq_true rfl, Nat.le_of_ble_eq_true rfl⟩ ?_
    exact k_iret hx hb hr hlk dX6_count_106 (rfl)
  · have hl : lv_has ls 2 [(0, .ref o), (1, .int (nI 4))] := hl
    refine lv_iload_n hx hb dX6_count_0 rfl (lv_at hl 1 rfl) ?_
    refine lv_tableIn (off := 106) (tgt := 107) hx hb dX6_count_1 (by decide) (by decide) (by decide) (by decide) ?_
    refine lv_aload_n hx hb dX6_count_107 rfl (lv_at hl 0 rfl) ?_
    refine k_get S hK hP0 rfl (fun _ h => List.mem_cons_of_mem _ (List.mem_append_left _ (List.mem_append_left _ (List.mem_append_left _ (List.mem_append_left _ (List.mem_append_left _ (List.mem_append_left _ (List.mem_append_right _ (h))))))))) 0 (by decide) (List.mem_cons_of_mem _ (List.mem_append_left _ (List.mem_append_left _ (List.mem_append_left _ (List.mem_append_left _ (List.mem_append_left _ (List.mem_append_left _ (List.mem_append_left _ (List.mem_append_left _ (List.mem_of_getElem? (i := 2) rfl)))))))))) rfl (v := .ref (o + 1)) rfl dX6_count_108 ?_
    refine lv_iconst (v := nI 3) hx hb dX6_count_111 (by decide) ?_
    refine k_V (As := [.int (nI 3)]) (rest := []) S hK (c_X1_unitsIn l E (o + 1) z (nI 3) hI) gX6_count_X1_unitsIn rfl hd_X1_unitsIn ⟨rfl, rfl⟩ ⟨Nat.le_of_ble_eq_true rfl, Nat.le_of_ble_eq_true rfl⟩ (k_recv hK (dz_d hP1) rfl) hP1 rfl hl.1 rfl (Nat.le_of_ble_eq_true rfl) dX6_count_112 ⟨Nat.le_of_ble_eq_true rfl, Nat.le_of_ble_eq_true rfl⟩ ?_
    exact k_iret hx hb hr hlk dX6_count_115 (rfl)
  · have hl : lv_has ls 2 [(0, .ref o), (1, .int (nI 5))] := hl
    refine lv_iload_n hx hb dX6_count_0 rfl (lv_at hl 1 rfl) ?_
    refine lv_tableIn (off := 115) (tgt := 116) hx hb dX6_count_1 (by decide) (by decide) (by decide) (by decide) ?_
    refine lv_aload_n hx hb dX6_count_116 rfl (lv_at hl 0 rfl) ?_
    refine k_get S hK hP0 rfl (fun _ h => List.mem_cons_of_mem _ (List.mem_append_left _ (List.mem_append_left _ (List.mem_append_left _ (List.mem_append_left _ (List.mem_append_left _ (List.mem_append_left _ (List.mem_append_right _ (h))))))))) 0 (by decide) (List.mem_cons_of_mem _ (List.mem_append_left _ (List.mem_append_left _ (List.mem_append_left _ (List.mem_append_left _ (List.mem_append_left _ (List.mem_append_left _ (List.mem_append_left _ (List.mem_append_left _ (List.mem_of_getElem? (i := 2) rfl)))))))))) rfl (v := .ref (o + 1)) rfl dX6_count_117 ?_
    refine lv_iconst (v := nI 4) hx hb dX6_count_120 (by decide) ?_
    refine k_V (As := [.int (nI 4)]) (rest := []) S hK (c_X1_unitsIn l E (o + 1) z (nI 4) hI) gX6_count_X1_unitsIn rfl hd_X1_unitsIn ⟨rfl, rfl⟩ ⟨Nat.le_of_ble_eq_true rfl, Nat.le_of_ble_eq_true rfl⟩ (k_recv hK (dz_d hP1) rfl) hP1 rfl hl.1 rfl (Nat.le_of_ble_eq_true rfl) dX6_count_121 ⟨Nat.le_of_ble_eq_true rfl, Nat.le_of_ble_eq_true rfl⟩ ?_
    exact k_iret hx hb hr hlk dX6_count_124 (rfl)
  · have hl : lv_has ls 2 [(0, .ref o), (1, .int (nI 6))] := hl
    refine lv_iload_n hx hb dX6_count_0 rfl (lv_at hl 1 rfl) ?_
    refine lv_tableIn (off := 124) (tgt := 125) hx hb dX6_count_1 (by decide) (by decide) (by decide) (by decide) ?_
    refine lv_aload_n hx hb dX6_count_125 rfl (lv_at hl 0 rfl) ?_
    refine k_get S hK hP0 rfl (fun _ h => List.mem_cons_of_mem _ (List.mem_append_left _ (List.mem_append_left _ (List.mem_append_left _ (List.mem_append_left _ (List.mem_append_left _ (List.mem_append_left _ (List.mem_append_right _ (h))))))))) 0 (by decide) (List.mem_cons_of_mem _ (List.mem_append_left _ (List.mem_append_left _ (List.mem_append_left _ (List.mem_append_left _ (List.mem_append_left _ (List.mem_append_left _ (List.mem_append_left _ (List.mem_append_left _ (List.mem_of_getElem? (i := 2) rfl)))))))))) rfl (v := .ref (o + 1)) rfl dX6_count_126 ?_
    refine k_V (As := []) (rest := []) S hK (c_X1_heldUnits l E (o + 1) z hI) gX6_count_X1_heldUnits rfl hd_X1_heldUnits ⟨rfl, rfl⟩ ⟨Nat.le_of_ble_eq_true rfl, Nat.le_of_ble_eq_true rfl⟩ (k_recv hK (dz_d hP1) rfl) hP1 rfl hl.1 rfl (Nat.le_of_ble_eq_true rfl) dX6_count_129 ⟨Nat.le_of_ble_eq_true rfl, Nat.le_of_ble_eq_true rfl⟩ ?_
    exact k_iret hx hb hr hlk dX6_count_132 (rfl)
  · have hl : lv_has ls 2 [(0, .ref o), (1, .int (nI 7))] := hl
    refine lv_iload_n hx hb dX6_count_0 rfl (lv_at hl 1 rfl) ?_
    refine lv_tableIn (off := 132) (tgt := 133) hx hb dX6_count_1 (by decide) (by decide) (by decide) (by decide) ?_
    refine lv_aload_n hx hb dX6_count_133 rfl (lv_at hl 0 rfl) ?_
    refine k_get S hK hP0 rfl (fun _ h => List.mem_cons_of_mem _ (List.mem_append_left _ (List.mem_append_left _ (List.mem_append_left _ (List.mem_append_left _ (List.mem_append_left _ (List.mem_append_left _ (List.mem_append_right _ (h))))))))) 0 (by decide) (List.mem_cons_of_mem _ (List.mem_append_left _ (List.mem_append_left _ (List.mem_append_left _ (List.mem_append_left _ (List.mem_append_left _ (List.mem_append_left _ (List.mem_append_left _ (List.mem_append_left _ (List.mem_of_getElem? (i := 2) rfl)))))))))) rfl (v := .ref (o + 1)) rfl dX6_count_134 ?_
    refine k_get S hK (dz_d hP1) rfl (fun _ h => List.mem_cons_of_mem _ (List.mem_append_left _ (List.mem_append_left _ (List.mem_append_left _ (List.mem_append_left _ (List.mem_append_left _ (List.mem_append_right _ (h)))))))) 5 (by decide) (List.mem_cons_of_mem _ (List.mem_append_left _ (List.mem_append_left _ (List.mem_append_left _ (List.mem_append_left _ (List.mem_append_left _ (List.mem_append_left _ (List.mem_append_left _ (List.mem_append_left _ (List.mem_of_getElem? (i := 4) rfl)))))))))) rfl (v := .int (z 1)) rfl dX6_count_137 ?_
    exact k_iret hx hb hr hlk dX6_count_140 (rfl)
  · have hl : lv_has ls 2 [(0, .ref o), (1, .int (nI 8))] := hl
    refine lv_iload_n hx hb dX6_count_0 rfl (lv_at hl 1 rfl) ?_
    refine lv_tableIn (off := 140) (tgt := 141) hx hb dX6_count_1 (by decide) (by decide) (by decide) (by decide) ?_
    refine lv_aload_n hx hb dX6_count_141 rfl (lv_at hl 0 rfl) ?_
    refine k_get S hK hP0 rfl (fun _ h => List.mem_cons_of_mem _ (List.mem_append_left _ (List.mem_append_left _ (List.mem_append_left _ (List.mem_append_left _ (List.mem_append_left _ (List.mem_append_left _ (List.mem_append_right _ (h))))))))) 0 (by decide) (List.mem_cons_of_mem _ (List.mem_append_left _ (List.mem_append_left _ (List.mem_append_left _ (List.mem_append_left _ (List.mem_append_left _ (List.mem_append_left _ (List.mem_append_left _ (List.mem_append_left _ (List.mem_of_getElem? (i := 2) rfl)))))))))) rfl (v := .ref (o + 1)) rfl dX6_count_142 ?_
    refine k_V (As := []) (rest := []) S hK (c_X1_moneyBySales l E (o + 1) z hI) gX6_count_X1_moneyBySales rfl hd_X1_moneyBySales ⟨rfl, rfl⟩ ⟨Nat.le_of_ble_eq_true rfl, Nat.le_of_ble_eq_true rfl⟩ (k_recv hK (dz_d hP1) rfl) hP1 rfl hl.1 rfl (Nat.le_of_ble_eq_true rfl) dX6_count_145 ⟨Nat.le_of_ble_eq_true rfl, Nat.le_of_ble_eq_true rfl⟩ ?_
    exact k_iret hx hb hr hlk dX6_count_148 (hJ.1)
  · have hl : lv_has ls 2 [(0, .ref o), (1, .int (nI 9))] := hl
    refine lv_iload_n hx hb dX6_count_0 rfl (lv_at hl 1 rfl) ?_
    refine lv_tableIn (off := 148) (tgt := 149) hx hb dX6_count_1 (by decide) (by decide) (by decide) (by decide) ?_
    refine lv_aload_n hx hb dX6_count_149 rfl (lv_at hl 0 rfl) ?_
    refine k_get S hK hP0 rfl (fun _ h => List.mem_cons_of_mem _ (List.mem_append_left _ (List.mem_append_left _ (List.mem_append_left _ (List.mem_append_left _ (List.mem_append_left _ (List.mem_append_left _ (List.mem_append_right _ (h))))))))) 0 (by decide) (List.mem_cons_of_mem _ (List.mem_append_left _ (List.mem_append_left _ (List.mem_append_left _ (List.mem_append_left _ (List.mem_append_left _ (List.mem_append_left _ (List.mem_append_left _ (List.mem_append_left _ (List.mem_of_getElem? (i := 2) rfl)))))))))) rfl (v := .ref (o + 1)) rfl dX6_count_150 ?_
    refine k_V (As := []) (rest := []) S hK (c_X1_moneyByVendors l E (o + 1) z) gX6_count_X1_moneyByVendors rfl hd_X1_moneyByVendors ⟨rfl, rfl⟩ ⟨Nat.le_of_ble_eq_true rfl, Nat.le_of_ble_eq_true rfl⟩ (k_recv hK (dz_d hP1) rfl) hP1 rfl hl.1 rfl (Nat.le_of_ble_eq_true rfl) dX6_count_153 ⟨Nat.le_of_ble_eq_true rfl, Nat.le_of_ble_eq_true rfl⟩ ?_
    exact k_iret hx hb hr hlk dX6_count_156 (hJ.2.1)
  · have hl : lv_has ls 2 [(0, .ref o), (1, .int (nI 10))] := hl
    refine lv_iload_n hx hb dX6_count_0 rfl (lv_at hl 1 rfl) ?_
    refine lv_tableIn (off := 156) (tgt := 157) hx hb dX6_count_1 (by decide) (by decide) (by decide) (by decide) ?_
    refine lv_aload_n hx hb dX6_count_157 rfl (lv_at hl 0 rfl) ?_
    refine k_get S hK hP0 rfl (fun _ h => List.mem_cons_of_mem _ (List.mem_append_left _ (List.mem_append_left _ (List.mem_append_left _ (List.mem_append_left _ (List.mem_append_left _ (List.mem_append_left _ (List.mem_append_right _ (h))))))))) 0 (by decide) (List.mem_cons_of_mem _ (List.mem_append_left _ (List.mem_append_left _ (List.mem_append_left _ (List.mem_append_left _ (List.mem_append_left _ (List.mem_append_left _ (List.mem_append_left _ (List.mem_append_left _ (List.mem_of_getElem? (i := 2) rfl)))))))))) rfl (v := .ref (o + 1)) rfl dX6_count_158 ?_
    refine k_V (As := []) (rest := []) S hK (c_X1_workshopCost l E (o + 1) z hI) gX6_count_X1_workshopCost rfl hd_X1_workshopCost ⟨rfl, rfl⟩ ⟨Nat.le_of_ble_eq_true rfl, Nat.le_of_ble_eq_true rfl⟩ (k_recv hK (dz_d hP1) rfl) hP1 rfl hl.1 rfl (Nat.le_of_ble_eq_true rfl) dX6_count_161 ⟨Nat.le_of_ble_eq_true rfl, Nat.le_of_ble_eq_true rfl⟩ ?_
    exact k_iret hx hb hr hlk dX6_count_164 (hJ.2.2.1)
  · have hl : lv_has ls 2 [(0, .ref o), (1, .int (nI 11))] := hl
    refine lv_iload_n hx hb dX6_count_0 rfl (lv_at hl 1 rfl) ?_
    refine lv_tableIn (off := 164) (tgt := 165) hx hb dX6_count_1 (by decide) (by decide) (by decide) (by decide) ?_
    refine lv_aload_n hx hb dX6_count_165 rfl (lv_at hl 0 rfl) ?_
    refine k_get S hK hP0 rfl (fun _ h => List.mem_cons_of_mem _ (List.mem_append_left _ (List.mem_append_left _ (List.mem_append_left _ (List.mem_append_left _ (List.mem_append_left _ (List.mem_append_left _ (List.mem_append_right _ (h))))))))) 0 (by decide) (List.mem_cons_of_mem _ (List.mem_append_left _ (List.mem_append_left _ (List.mem_append_left _ (List.mem_append_left _ (List.mem_append_left _ (List.mem_append_left _ (List.mem_append_left _ (List.mem_append_left _ (List.mem_of_getElem? (i := 2) rfl)))))))))) rfl (v := .ref (o + 1)) rfl dX6_count_166 ?_
    refine k_get S hK (dz_d hP1) rfl (fun _ h => List.mem_cons_of_mem _ (List.mem_append_left _ (List.mem_append_left _ (List.mem_append_left _ (List.mem_append_left _ (List.mem_append_left _ (List.mem_append_right _ (h)))))))) 6 (by decide) (List.mem_cons_of_mem _ (List.mem_append_left _ (List.mem_append_left _ (List.mem_append_left _ (List.mem_append_left _ (List.mem_append_left _ (List.mem_append_left _ (List.mem_append_left _ (List.mem_append_left _ (List.mem_of_getElem? (i := 5) rfl)))))))))) rfl (v := .int (z 5)) rfl dX6_count_169 ?_
    exact k_iret hx hb hr hlk dX6_count_172 (rfl)
  · have hl : lv_has ls 2 [(0, .ref o), (1, .int (nI 12))] := hl
    refine lv_iload_n hx hb dX6_count_0 rfl (lv_at hl 1 rfl) ?_
    refine lv_tableIn (off := 172) (tgt := 173) hx hb dX6_count_1 (by decide) (by decide) (by decide) (by decide) ?_
    refine lv_aload_n hx hb dX6_count_173 rfl (lv_at hl 0 rfl) ?_
    refine k_get S hK hP0 rfl (fun _ h => List.mem_cons_of_mem _ (List.mem_append_left _ (List.mem_append_left _ (List.mem_append_left _ (List.mem_append_left _ (List.mem_append_left _ (List.mem_append_left _ (List.mem_append_right _ (h))))))))) 0 (by decide) (List.mem_cons_of_mem _ (List.mem_append_left _ (List.mem_append_left _ (List.mem_append_left _ (List.mem_append_left _ (List.mem_append_left _ (List.mem_append_left _ (List.mem_append_left _ (List.mem_append_left _ (List.mem_of_getElem? (i := 2) rfl)))))))))) rfl (v := .ref (o + 1)) rfl dX6_count_174 ?_
    refine k_V (As := []) (rest := []) S hK (c_X1_claims l E (o + 1) z hI) gX6_count_X1_claims rfl hd_X1_claims ⟨rfl, rfl⟩ ⟨Nat.le_of_ble_eq_true rfl, Nat.le_of_ble_eq_true rfl⟩ (k_recv hK (dz_d hP1) rfl) hP1 rfl hl.1 rfl (Nat.le_of_ble_eq_true rfl) dX6_count_177 ⟨Nat.le_of_ble_eq_true rfl, Nat.le_of_ble_eq_true rfl⟩ ?_
    exact k_iret hx hb hr hlk dX6_count_180 (hJ.2.2.2)
  · have hl : lv_has ls 2 [(0, .ref o), (1, .int (nI 13))] := hl
    refine lv_iload_n hx hb dX6_count_0 rfl (lv_at hl 1 rfl) ?_
    refine lv_tableIn (off := 180) (tgt := 181) hx hb dX6_count_1 (by decide) (by decide) (by decide) (by decide) ?_
    refine lv_aload_n hx hb dX6_count_181 rfl (lv_at hl 0 rfl) ?_
    refine k_get S hK hP0 rfl (fun _ h => List.mem_cons_of_mem _ (List.mem_append_left _ (List.mem_append_left _ (List.mem_append_left _ (List.mem_append_left _ (List.mem_append_left _ (List.mem_append_left _ (List.mem_append_right _ (h))))))))) 2 (by decide) (List.mem_cons_of_mem _ (List.mem_append_left _ (List.mem_append_left _ (List.mem_append_left _ (List.mem_append_left _ (List.mem_append_left _ (List.mem_append_left _ (List.mem_append_left _ (List.mem_append_left _ (List.mem_of_getElem? (i := 6) rfl)))))))))) rfl (v := .ref (o + 119)) rfl dX6_count_182 ?_
    refine k_get S hK (hy_at hP2) rfl (fun _ h => List.mem_cons_of_mem _ (List.mem_append_left _ (List.mem_append_left _ (List.mem_append_left _ (List.mem_append_left _ (List.mem_append_right _ (h))))))) 1 (by decide) (List.mem_cons_of_mem _ (List.mem_append_left _ (List.mem_append_left _ (List.mem_append_left _ (List.mem_append_left _ (List.mem_append_left _ (List.mem_append_left _ (List.mem_append_left _ (List.mem_append_left _ (List.mem_of_getElem? (i := 7) rfl)))))))))) rfl (v := .int (nI sn)) rfl dX6_count_185 ?_
    exact k_iret hx hb hr hlk dX6_count_188 (rfl)
def rm_X6_setting : Room := { frames := 1, cells := 0, slots := 0, locals := 21 }
theorem hd_X6_setting : k_hd1 yX6_setting RX6 1 := by decide +kernel
set_option maxHeartbeats 4000000 in
set_option maxRecDepth 100000 in
theorem c_X6_setting (l : Launch) (E : ke_E) (o : Nat) (z : Nat → Int32) (k : Nat) (hI : iv z) (hk : k < 5) : Met l yX6_setting wsX6_setting rm_X6_setting (kp E [.ref o, .int (nI k)] (fun H => gg E o H ∧ dz E (o + 1) z H)) (qp (some (.int (z (k + 7))))) 0 0 nof := by
  refine k_hd (cc := cX6_setting) (maxL := 2) (ret := (some .int)) (by decide) rfl (Nat.le_of_ble_eq_true rfl) ?_
  intro p e s m below meth c ls S hr hlk hnm hK hP hl
  have hx := S.1
  have hb := S.2.1
  have hts := S.2.2.2.2
  obtain ⟨hP0, hP1⟩ := hP
  have hl : lv_has ls 2 [(0, .ref o), (1, .int (nI k))] := hl
  have hc20 := iv_c hI
  refine lv_iload_n hx hb dX6_setting_0 rfl (lv_at hl 1 rfl) ?_
  refine lv_aload_n hx hb dX6_setting_1 rfl (lv_at hl 0 rfl) ?_
  refine k_get S hK hP0 rfl (fun _ h => List.mem_cons_of_mem _ (List.mem_append_left _ (List.mem_append_left _ (List.mem_append_right _ (h))))) 0 (by decide) (List.mem_cons_of_mem _ (List.mem_append_left _ (List.mem_append_left _ (List.mem_append_left _ (List.mem_of_getElem? (i := 2) rfl))))) rfl (v := .ref (o + 1)) rfl dX6_setting_2 ?_
  refine k_get S hK (dz_d hP1) rfl (fun _ h => List.mem_cons_of_mem _ (List.mem_append_left _ (List.mem_append_right _ (h)))) 3 (by decide) (List.mem_cons_of_mem _ (List.mem_append_left _ (List.mem_append_left _ (List.mem_append_left _ (List.mem_of_getElem? (i := 3) rfl))))) rfl (v := .ref (o + 1 + 4)) rfl dX6_setting_5 ?_
  refine k_alen hx hb hK (t := 0) rfl (dz_st hP1) dX6_setting_8 ?_
  refine k_top (y := nI 5) rfl ?_
  refine k_S (As := [.int (nI k), .int (nI 5)]) (rest := []) S hK (c_X6_isIndex_n l E k 5 (by omega) (by omega)) gX6_setting_X6_isIndex rfl hd_X6_isIndex ⟨rfl, rfl⟩ ⟨Nat.le_of_ble_eq_true rfl, Nat.le_of_ble_eq_true rfl⟩ trivial rfl hl.1 rfl (Nat.le_of_ble_eq_true rfl) dX6_setting_9 ⟨Nat.le_of_ble_eq_true rfl, Nat.le_of_ble_eq_true rfl⟩ ?_
  refine b_ne (tgt := 25) hx hb dX6_setting_12 (by decide) (fun c12 => ?_) (fun h => absurd hk h)
  rcases (by omega : k = 0 ∨ k = 1 ∨ k = 2 ∨ k = 3 ∨ k = 4) with rfl | rfl | rfl | rfl | rfl
  · have hl : lv_has ls 2 [(0, .ref o), (1, .int (nI 0))] := hl
    refine lv_aload_n hx hb dX6_setting_25 rfl (lv_at hl 0 rfl) ?_
    refine k_get S hK hP0 rfl (fun _ h => List.mem_cons_of_mem _ (List.mem_append_left _ (List.mem_append_left _ (List.mem_append_right _ (h))))) 0 (by decide) (List.mem_cons_of_mem _ (List.mem_append_left _ (List.mem_append_left _ (List.mem_append_left _ (List.mem_of_getElem? (i := 2) rfl))))) rfl (v := .ref (o + 1)) rfl dX6_setting_26 ?_
    refine k_get S hK (dz_d hP1) rfl (fun _ h => List.mem_cons_of_mem _ (List.mem_append_left _ (List.mem_append_right _ (h)))) 3 (by decide) (List.mem_cons_of_mem _ (List.mem_append_left _ (List.mem_append_left _ (List.mem_append_left _ (List.mem_of_getElem? (i := 3) rfl))))) rfl (v := .ref (o + 1 + 4)) rfl dX6_setting_29 ?_
    refine lv_iload_n hx hb dX6_setting_32 rfl (lv_at hl 1 rfl) ?_
    refine k_iald hx hb hK (dz_st hP1) (by omega) (by decide) (v := z 7) rfl dX6_setting_33 ?_
    exact k_iret hx hb hr hlk dX6_setting_34 (rfl)
  · have hl : lv_has ls 2 [(0, .ref o), (1, .int (nI 1))] := hl
    refine lv_aload_n hx hb dX6_setting_25 rfl (lv_at hl 0 rfl) ?_
    refine k_get S hK hP0 rfl (fun _ h => List.mem_cons_of_mem _ (List.mem_append_left _ (List.mem_append_left _ (List.mem_append_right _ (h))))) 0 (by decide) (List.mem_cons_of_mem _ (List.mem_append_left _ (List.mem_append_left _ (List.mem_append_left _ (List.mem_of_getElem? (i := 2) rfl))))) rfl (v := .ref (o + 1)) rfl dX6_setting_26 ?_
    refine k_get S hK (dz_d hP1) rfl (fun _ h => List.mem_cons_of_mem _ (List.mem_append_left _ (List.mem_append_right _ (h)))) 3 (by decide) (List.mem_cons_of_mem _ (List.mem_append_left _ (List.mem_append_left _ (List.mem_append_left _ (List.mem_of_getElem? (i := 3) rfl))))) rfl (v := .ref (o + 1 + 4)) rfl dX6_setting_29 ?_
    refine lv_iload_n hx hb dX6_setting_32 rfl (lv_at hl 1 rfl) ?_
    refine k_iald hx hb hK (dz_st hP1) (by omega) (by decide) (v := z 8) rfl dX6_setting_33 ?_
    exact k_iret hx hb hr hlk dX6_setting_34 (rfl)
  · have hl : lv_has ls 2 [(0, .ref o), (1, .int (nI 2))] := hl
    refine lv_aload_n hx hb dX6_setting_25 rfl (lv_at hl 0 rfl) ?_
    refine k_get S hK hP0 rfl (fun _ h => List.mem_cons_of_mem _ (List.mem_append_left _ (List.mem_append_left _ (List.mem_append_right _ (h))))) 0 (by decide) (List.mem_cons_of_mem _ (List.mem_append_left _ (List.mem_append_left _ (List.mem_append_left _ (List.mem_of_getElem? (i := 2) rfl))))) rfl (v := .ref (o + 1)) rfl dX6_setting_26 ?_
    refine k_get S hK (dz_d hP1) rfl (fun _ h => List.mem_cons_of_mem _ (List.mem_append_left _ (List.mem_append_right _ (h)))) 3 (by decide) (List.mem_cons_of_mem _ (List.mem_append_left _ (List.mem_append_left _ (List.mem_append_left _ (List.mem_of_getElem? (i := 3) rfl))))) rfl (v := .ref (o + 1 + 4)) rfl dX6_setting_29 ?_
    refine lv_iload_n hx hb dX6_setting_32 rfl (lv_at hl 1 rfl) ?_
    refine k_iald hx hb hK (dz_st hP1) (by omega) (by decide) (v := z 9) rfl dX6_setting_33 ?_
    exact k_iret hx hb hr hlk dX6_setting_34 (rfl)
  · have hl : lv_has ls 2 [(0, .ref o), (1, .int (nI 3))] := hl
    refine lv_aload_n hx hb dX6_setting_25 rfl (lv_at hl 0 rfl) ?_
    refine k_get S hK hP0 rfl (fun _ h => List.mem_cons_of_mem _ (List.mem_append_left _ (List.mem_append_left _ (List.mem_append_right _ (h))))) 0 (by decide) (List.mem_cons_of_mem _ (List.mem_append_left _ (List.mem_append_left _ (List.mem_append_left _ (List.mem_of_getElem? (i := 2) rfl))))) rfl (v := .ref (o + 1)) rfl dX6_setting_26 ?_
    refine k_get S hK (dz_d hP1) rfl (fun _ h => List.mem_cons_of_mem _ (List.mem_append_left _ (List.mem_append_right _ (h)))) 3 (by decide) (List.mem_cons_of_mem _ (List.mem_append_left _ (List.mem_append_left _ (List.mem_append_left _ (List.mem_of_getElem? (i := 3) rfl))))) rfl (v := .ref (o + 1 + 4)) rfl dX6_setting_29 ?_
    refine lv_iload_n hx hb dX6_setting_32 rfl (lv_at hl 1 rfl) ?_
    refine k_iald hx hb hK (dz_st hP1) (by omega) (by decide) (v := nI (pd z)) (iv_pd hI) dX6_setting_33 ?_
    exact k_iret hx hb hr hlk dX6_setting_34 (iv_pd hI)
  · have hl : lv_has ls 2 [(0, .ref o), (1, .int (nI 4))] := hl
    refine lv_aload_n hx hb dX6_setting_25 rfl (lv_at hl 0 rfl) ?_
    refine k_get S hK hP0 rfl (fun _ h => List.mem_cons_of_mem _ (List.mem_append_left _ (List.mem_append_left _ (List.mem_append_right _ (h))))) 0 (by decide) (List.mem_cons_of_mem _ (List.mem_append_left _ (List.mem_append_left _ (List.mem_append_left _ (List.mem_of_getElem? (i := 2) rfl))))) rfl (v := .ref (o + 1)) rfl dX6_setting_26 ?_
    refine k_get S hK (dz_d hP1) rfl (fun _ h => List.mem_cons_of_mem _ (List.mem_append_left _ (List.mem_append_right _ (h)))) 3 (by decide) (List.mem_cons_of_mem _ (List.mem_append_left _ (List.mem_append_left _ (List.mem_append_left _ (List.mem_of_getElem? (i := 3) rfl))))) rfl (v := .ref (o + 1 + 4)) rfl dX6_setting_29 ?_
    refine lv_iload_n hx hb dX6_setting_32 rfl (lv_at hl 1 rfl) ?_
    refine k_iald hx hb hK (dz_st hP1) (by omega) (by decide) (v := z 11) rfl dX6_setting_33 ?_
    exact k_iret hx hb hr hlk dX6_setting_34 (rfl)
def rm_X6_whyNot_1 : Room := { frames := 4, cells := 0, slots := 0, locals := 86 }
theorem hd_X6_whyNot : k_hd1 yX6_whyNot RX6 2 := by decide +kernel
set_option maxHeartbeats 4000000 in
set_option maxRecDepth 100000 in
theorem c_X6_whyNot_1 (l : Launch) (E : ke_E) (o : Nat) (z : Nat → Int32) (u : Nat) (hI : iv z) (hu : u < cn z) : Met l yX6_whyNot wsX6_whyNot rm_X6_whyNot_1 (kp E [.ref o, .int (nI u), .int (nI 1)] (fun H => gg E o H ∧ dz E (o + 1) z H)) (qp (some (.int (wy1 z u)))) 0 0 nof := by
  refine k_hd (cc := cX6_whyNot) (maxL := 4) (ret := (some .int)) (by decide) rfl (Nat.le_of_ble_eq_true rfl) ?_
  intro p e s m below meth c ls S hr hlk hnm hK hP hl
  have hx := S.1
  have hb := S.2.1
  have hts := S.2.2.2.2
  obtain ⟨hP0, hP1⟩ := hP
  have hl : lv_has ls 4 [(0, .ref o), (1, .int (nI u)), (2, .int (nI 1))] := hl
  have hc20 := iv_c hI
  refine lv_aload_n hx hb dX6_whyNot_0 rfl (lv_at hl 0 rfl) ?_
  refine lv_iload_n hx hb dX6_whyNot_1 rfl (lv_at hl 1 rfl) ?_
  refine k_V (As := [.int (nI u)]) (rest := []) S hK (c_X6_unitNumbered l E o z u hI hu) gX6_whyNot_X6_unitNumbered rfl hd_X6_unitNumbered ⟨rfl, rfl⟩ ⟨Nat.le_of_ble_eq_true rfl, Nat.le_of_ble_eq_true rfl⟩ (k_recv hK hP0 rfl) ⟨hP0, hP1⟩ rfl hl.1 rfl (Nat.le_of_ble_eq_true rfl) dX6_whyNot_2 ⟨Nat.le_of_ble_eq_true rfl, Nat.le_of_ble_eq_true rfl⟩ ?_
  refine lv_astore_n (lv' := [(3, .ref (o + 1 + 2*u + 19)), (0, .ref o), (1, .int (nI u)), (2, .int (nI 1))]) hx hb dX6_whyNot_5 rfl hl (by decide) rfl (fun ls hl => ?_)
  refine lv_iload_n hx hb dX6_whyNot_6 rfl (lv_at hl 3 rfl) ?_
  refine lv_iconst (v := nI 1) hx hb dX6_whyNot_7 (by decide) ?_
  refine lv_iconst (v := nI 4) hx hb dX6_whyNot_8 (by decide) ?_
  refine k_S (As := [.int (nI 1), .int (nI 1), .int (nI 4)]) (rest := []) S hK (c_X6_requireRange l E 1 4 (nI 1) (in_n (by omega) (by omega) (by omega))) gX6_whyNot_X6_requireRange rfl hd_X6_requireRange ⟨rfl, rfl⟩ ⟨Nat.le_of_ble_eq_true rfl, Nat.le_of_ble_eq_true rfl⟩ trivial rfl hl.1 rfl (Nat.le_of_ble_eq_true rfl) dX6_whyNot_9 ⟨Nat.le_of_ble_eq_true rfl, Nat.le_of_ble_eq_true rfl⟩ ?_
  refine lv_aload_n hx hb dX6_whyNot_12 rfl (lv_at hl 1 rfl) ?_
  refine k_get S hK hP0 rfl (fun _ h => List.mem_cons_of_mem _ (List.mem_append_left _ (List.mem_append_left _ (List.mem_append_left _ (List.mem_append_left _ (List.mem_append_left _ (List.mem_append_right _ (h)))))))) 0 (by decide) (List.mem_cons_of_mem _ (List.mem_append_left _ (List.mem_append_left _ (List.mem_append_left _ (List.mem_append_left _ (List.mem_append_left _ (List.mem_append_left _ (List.mem_append_left _ (List.mem_of_getElem? (i := 0) rfl))))))))) rfl (v := .ref (o + 1)) rfl dX6_whyNot_13 ?_
  refine lv_aload_n hx hb dX6_whyNot_16 rfl (lv_at hl 0 rfl) ?_
  refine lv_iload_n hx hb dX6_whyNot_17 rfl (lv_at hl 3 rfl) ?_
  refine k_V (As := [.ref (o + 1 + 2*u + 19), .int (nI 1)]) (rest := []) S hK (c_X1_obstacle_1 l E (o + 1) z u hI hu) gX6_whyNot_X1_obstacle rfl hd_X1_obstacle ⟨rfl, rfl⟩ ⟨Nat.le_of_ble_eq_true rfl, Nat.le_of_ble_eq_true rfl⟩ (k_recv hK (dz_d hP1) rfl) hP1 rfl hl.1 rfl (Nat.le_of_ble_eq_true rfl) dX6_whyNot_18 ⟨Nat.le_of_ble_eq_true rfl, Nat.le_of_ble_eq_true rfl⟩ ?_
  exact k_iret hx hb hr hlk dX6_whyNot_21 (rfl)
def rm_X6_whyNot_2 : Room := { frames := 4, cells := 0, slots := 0, locals := 86 }
set_option maxHeartbeats 4000000 in
set_option maxRecDepth 100000 in
theorem c_X6_whyNot_2 (l : Launch) (E : ke_E) (o : Nat) (z : Nat → Int32) (u : Nat) (hI : iv z) (hu : u < cn z) : Met l yX6_whyNot wsX6_whyNot rm_X6_whyNot_2 (kp E [.ref o, .int (nI u), .int (nI 2)] (fun H => gg E o H ∧ dz E (o + 1) z H)) (qp (some (.int (wy2 z u)))) 0 0 nof := by
  refine k_hd (cc := cX6_whyNot) (maxL := 4) (ret := (some .int)) (by decide) rfl (Nat.le_of_ble_eq_true rfl) ?_
  intro p e s m below meth c ls S hr hlk hnm hK hP hl
  have hx := S.1
  have hb := S.2.1
  have hts := S.2.2.2.2
  obtain ⟨hP0, hP1⟩ := hP
  have hl : lv_has ls 4 [(0, .ref o), (1, .int (nI u)), (2, .int (nI 2))] := hl
  have hc20 := iv_c hI
  refine lv_aload_n hx hb dX6_whyNot_0 rfl (lv_at hl 0 rfl) ?_
  refine lv_iload_n hx hb dX6_whyNot_1 rfl (lv_at hl 1 rfl) ?_
  refine k_V (As := [.int (nI u)]) (rest := []) S hK (c_X6_unitNumbered l E o z u hI hu) gX6_whyNot_X6_unitNumbered rfl hd_X6_unitNumbered ⟨rfl, rfl⟩ ⟨Nat.le_of_ble_eq_true rfl, Nat.le_of_ble_eq_true rfl⟩ (k_recv hK hP0 rfl) ⟨hP0, hP1⟩ rfl hl.1 rfl (Nat.le_of_ble_eq_true rfl) dX6_whyNot_2 ⟨Nat.le_of_ble_eq_true rfl, Nat.le_of_ble_eq_true rfl⟩ ?_
  refine lv_astore_n (lv' := [(3, .ref (o + 1 + 2*u + 19)), (0, .ref o), (1, .int (nI u)), (2, .int (nI 2))]) hx hb dX6_whyNot_5 rfl hl (by decide) rfl (fun ls hl => ?_)
  refine lv_iload_n hx hb dX6_whyNot_6 rfl (lv_at hl 3 rfl) ?_
  refine lv_iconst (v := nI 1) hx hb dX6_whyNot_7 (by decide) ?_
  refine lv_iconst (v := nI 4) hx hb dX6_whyNot_8 (by decide) ?_
  refine k_S (As := [.int (nI 2), .int (nI 1), .int (nI 4)]) (rest := []) S hK (c_X6_requireRange l E 1 4 (nI 2) (in_n (by omega) (by omega) (by omega))) gX6_whyNot_X6_requireRange rfl hd_X6_requireRange ⟨rfl, rfl⟩ ⟨Nat.le_of_ble_eq_true rfl, Nat.le_of_ble_eq_true rfl⟩ trivial rfl hl.1 rfl (Nat.le_of_ble_eq_true rfl) dX6_whyNot_9 ⟨Nat.le_of_ble_eq_true rfl, Nat.le_of_ble_eq_true rfl⟩ ?_
  refine lv_aload_n hx hb dX6_whyNot_12 rfl (lv_at hl 1 rfl) ?_
  refine k_get S hK hP0 rfl (fun _ h => List.mem_cons_of_mem _ (List.mem_append_left _ (List.mem_append_left _ (List.mem_append_left _ (List.mem_append_left _ (List.mem_append_left _ (List.mem_append_right _ (h)))))))) 0 (by decide) (List.mem_cons_of_mem _ (List.mem_append_left _ (List.mem_append_left _ (List.mem_append_left _ (List.mem_append_left _ (List.mem_append_left _ (List.mem_append_left _ (List.mem_append_left _ (List.mem_of_getElem? (i := 0) rfl))))))))) rfl (v := .ref (o + 1)) rfl dX6_whyNot_13 ?_
  refine lv_aload_n hx hb dX6_whyNot_16 rfl (lv_at hl 0 rfl) ?_
  refine lv_iload_n hx hb dX6_whyNot_17 rfl (lv_at hl 3 rfl) ?_
  refine k_V (As := [.ref (o + 1 + 2*u + 19), .int (nI 2)]) (rest := []) S hK (c_X1_obstacle_2 l E (o + 1) z u hI hu) gX6_whyNot_X1_obstacle rfl hd_X1_obstacle ⟨rfl, rfl⟩ ⟨Nat.le_of_ble_eq_true rfl, Nat.le_of_ble_eq_true rfl⟩ (k_recv hK (dz_d hP1) rfl) hP1 rfl hl.1 rfl (Nat.le_of_ble_eq_true rfl) dX6_whyNot_18 ⟨Nat.le_of_ble_eq_true rfl, Nat.le_of_ble_eq_true rfl⟩ ?_
  exact k_iret hx hb hr hlk dX6_whyNot_21 (rfl)
def rm_X6_whyNot_3 : Room := { frames := 4, cells := 0, slots := 0, locals := 86 }
set_option maxHeartbeats 4000000 in
set_option maxRecDepth 100000 in
theorem c_X6_whyNot_3 (l : Launch) (E : ke_E) (o : Nat) (z : Nat → Int32) (u : Nat) (hI : iv z) (hu : u < cn z) : Met l yX6_whyNot wsX6_whyNot rm_X6_whyNot_3 (kp E [.ref o, .int (nI u), .int (nI 3)] (fun H => gg E o H ∧ dz E (o + 1) z H)) (qp (some (.int (wy3 z u)))) 0 0 nof := by
  refine k_hd (cc := cX6_whyNot) (maxL := 4) (ret := (some .int)) (by decide) rfl (Nat.le_of_ble_eq_true rfl) ?_
  intro p e s m below meth c ls S hr hlk hnm hK hP hl
  have hx := S.1
  have hb := S.2.1
  have hts := S.2.2.2.2
  obtain ⟨hP0, hP1⟩ := hP
  have hl : lv_has ls 4 [(0, .ref o), (1, .int (nI u)), (2, .int (nI 3))] := hl
  have hc20 := iv_c hI
  refine lv_aload_n hx hb dX6_whyNot_0 rfl (lv_at hl 0 rfl) ?_
  refine lv_iload_n hx hb dX6_whyNot_1 rfl (lv_at hl 1 rfl) ?_
  refine k_V (As := [.int (nI u)]) (rest := []) S hK (c_X6_unitNumbered l E o z u hI hu) gX6_whyNot_X6_unitNumbered rfl hd_X6_unitNumbered ⟨rfl, rfl⟩ ⟨Nat.le_of_ble_eq_true rfl, Nat.le_of_ble_eq_true rfl⟩ (k_recv hK hP0 rfl) ⟨hP0, hP1⟩ rfl hl.1 rfl (Nat.le_of_ble_eq_true rfl) dX6_whyNot_2 ⟨Nat.le_of_ble_eq_true rfl, Nat.le_of_ble_eq_true rfl⟩ ?_
  refine lv_astore_n (lv' := [(3, .ref (o + 1 + 2*u + 19)), (0, .ref o), (1, .int (nI u)), (2, .int (nI 3))]) hx hb dX6_whyNot_5 rfl hl (by decide) rfl (fun ls hl => ?_)
  refine lv_iload_n hx hb dX6_whyNot_6 rfl (lv_at hl 3 rfl) ?_
  refine lv_iconst (v := nI 1) hx hb dX6_whyNot_7 (by decide) ?_
  refine lv_iconst (v := nI 4) hx hb dX6_whyNot_8 (by decide) ?_
  refine k_S (As := [.int (nI 3), .int (nI 1), .int (nI 4)]) (rest := []) S hK (c_X6_requireRange l E 1 4 (nI 3) (in_n (by omega) (by omega) (by omega))) gX6_whyNot_X6_requireRange rfl hd_X6_requireRange ⟨rfl, rfl⟩ ⟨Nat.le_of_ble_eq_true rfl, Nat.le_of_ble_eq_true rfl⟩ trivial rfl hl.1 rfl (Nat.le_of_ble_eq_true rfl) dX6_whyNot_9 ⟨Nat.le_of_ble_eq_true rfl, Nat.le_of_ble_eq_true rfl⟩ ?_
  refine lv_aload_n hx hb dX6_whyNot_12 rfl (lv_at hl 1 rfl) ?_
  refine k_get S hK hP0 rfl (fun _ h => List.mem_cons_of_mem _ (List.mem_append_left _ (List.mem_append_left _ (List.mem_append_left _ (List.mem_append_left _ (List.mem_append_left _ (List.mem_append_right _ (h)))))))) 0 (by decide) (List.mem_cons_of_mem _ (List.mem_append_left _ (List.mem_append_left _ (List.mem_append_left _ (List.mem_append_left _ (List.mem_append_left _ (List.mem_append_left _ (List.mem_append_left _ (List.mem_of_getElem? (i := 0) rfl))))))))) rfl (v := .ref (o + 1)) rfl dX6_whyNot_13 ?_
  refine lv_aload_n hx hb dX6_whyNot_16 rfl (lv_at hl 0 rfl) ?_
  refine lv_iload_n hx hb dX6_whyNot_17 rfl (lv_at hl 3 rfl) ?_
  refine k_V (As := [.ref (o + 1 + 2*u + 19), .int (nI 3)]) (rest := []) S hK (c_X1_obstacle_3 l E (o + 1) z u hI hu) gX6_whyNot_X1_obstacle rfl hd_X1_obstacle ⟨rfl, rfl⟩ ⟨Nat.le_of_ble_eq_true rfl, Nat.le_of_ble_eq_true rfl⟩ (k_recv hK (dz_d hP1) rfl) hP1 rfl hl.1 rfl (Nat.le_of_ble_eq_true rfl) dX6_whyNot_18 ⟨Nat.le_of_ble_eq_true rfl, Nat.le_of_ble_eq_true rfl⟩ ?_
  exact k_iret hx hb hr hlk dX6_whyNot_21 (rfl)
def rm_X6_whyNot_4 : Room := { frames := 4, cells := 0, slots := 0, locals := 86 }
set_option maxHeartbeats 4000000 in
set_option maxRecDepth 100000 in
theorem c_X6_whyNot_4 (l : Launch) (E : ke_E) (o : Nat) (z : Nat → Int32) (u : Nat) (hI : iv z) (hu : u < cn z) : Met l yX6_whyNot wsX6_whyNot rm_X6_whyNot_4 (kp E [.ref o, .int (nI u), .int (nI 4)] (fun H => gg E o H ∧ dz E (o + 1) z H)) (qp (some (.int (wy4 z u)))) 0 0 nof := by
  refine k_hd (cc := cX6_whyNot) (maxL := 4) (ret := (some .int)) (by decide) rfl (Nat.le_of_ble_eq_true rfl) ?_
  intro p e s m below meth c ls S hr hlk hnm hK hP hl
  have hx := S.1
  have hb := S.2.1
  have hts := S.2.2.2.2
  obtain ⟨hP0, hP1⟩ := hP
  have hl : lv_has ls 4 [(0, .ref o), (1, .int (nI u)), (2, .int (nI 4))] := hl
  have hc20 := iv_c hI
  refine lv_aload_n hx hb dX6_whyNot_0 rfl (lv_at hl 0 rfl) ?_
  refine lv_iload_n hx hb dX6_whyNot_1 rfl (lv_at hl 1 rfl) ?_
  refine k_V (As := [.int (nI u)]) (rest := []) S hK (c_X6_unitNumbered l E o z u hI hu) gX6_whyNot_X6_unitNumbered rfl hd_X6_unitNumbered ⟨rfl, rfl⟩ ⟨Nat.le_of_ble_eq_true rfl, Nat.le_of_ble_eq_true rfl⟩ (k_recv hK hP0 rfl) ⟨hP0, hP1⟩ rfl hl.1 rfl (Nat.le_of_ble_eq_true rfl) dX6_whyNot_2 ⟨Nat.le_of_ble_eq_true rfl, Nat.le_of_ble_eq_true rfl⟩ ?_
  refine lv_astore_n (lv' := [(3, .ref (o + 1 + 2*u + 19)), (0, .ref o), (1, .int (nI u)), (2, .int (nI 4))]) hx hb dX6_whyNot_5 rfl hl (by decide) rfl (fun ls hl => ?_)
  refine lv_iload_n hx hb dX6_whyNot_6 rfl (lv_at hl 3 rfl) ?_
  refine lv_iconst (v := nI 1) hx hb dX6_whyNot_7 (by decide) ?_
  refine lv_iconst (v := nI 4) hx hb dX6_whyNot_8 (by decide) ?_
  refine k_S (As := [.int (nI 4), .int (nI 1), .int (nI 4)]) (rest := []) S hK (c_X6_requireRange l E 1 4 (nI 4) (in_n (by omega) (by omega) (by omega))) gX6_whyNot_X6_requireRange rfl hd_X6_requireRange ⟨rfl, rfl⟩ ⟨Nat.le_of_ble_eq_true rfl, Nat.le_of_ble_eq_true rfl⟩ trivial rfl hl.1 rfl (Nat.le_of_ble_eq_true rfl) dX6_whyNot_9 ⟨Nat.le_of_ble_eq_true rfl, Nat.le_of_ble_eq_true rfl⟩ ?_
  refine lv_aload_n hx hb dX6_whyNot_12 rfl (lv_at hl 1 rfl) ?_
  refine k_get S hK hP0 rfl (fun _ h => List.mem_cons_of_mem _ (List.mem_append_left _ (List.mem_append_left _ (List.mem_append_left _ (List.mem_append_left _ (List.mem_append_left _ (List.mem_append_right _ (h)))))))) 0 (by decide) (List.mem_cons_of_mem _ (List.mem_append_left _ (List.mem_append_left _ (List.mem_append_left _ (List.mem_append_left _ (List.mem_append_left _ (List.mem_append_left _ (List.mem_append_left _ (List.mem_of_getElem? (i := 0) rfl))))))))) rfl (v := .ref (o + 1)) rfl dX6_whyNot_13 ?_
  refine lv_aload_n hx hb dX6_whyNot_16 rfl (lv_at hl 0 rfl) ?_
  refine lv_iload_n hx hb dX6_whyNot_17 rfl (lv_at hl 3 rfl) ?_
  refine k_V (As := [.ref (o + 1 + 2*u + 19), .int (nI 4)]) (rest := []) S hK (c_X1_obstacle_4 l E (o + 1) z u hI hu) gX6_whyNot_X1_obstacle rfl hd_X1_obstacle ⟨rfl, rfl⟩ ⟨Nat.le_of_ble_eq_true rfl, Nat.le_of_ble_eq_true rfl⟩ (k_recv hK (dz_d hP1) rfl) hP1 rfl hl.1 rfl (Nat.le_of_ble_eq_true rfl) dX6_whyNot_18 ⟨Nat.le_of_ble_eq_true rfl, Nat.le_of_ble_eq_true rfl⟩ ?_
  exact k_iret hx hb hr hlk dX6_whyNot_21 (rfl)
def rm_X6_ifRepaired : Room := { frames := 3, cells := 0, slots := 0, locals := 65 }
theorem hd_X6_ifRepaired : k_hd1 yX6_ifRepaired RX6 2 := by decide +kernel
set_option maxHeartbeats 4000000 in
set_option maxRecDepth 100000 in
theorem c_X6_ifRepaired (l : Launch) (E : ke_E) (o : Nat) (z : Nat → Int32) (u : Nat) (k : Nat) (hI : iv z) (hu : u < cn z) (hk : k < 3) : Met l yX6_ifRepaired wsX6_ifRepaired rm_X6_ifRepaired (kp E [.ref o, .int (nI u), .int (nI k)] (fun H => gg E o H ∧ dz E (o + 1) z H)) (qp (some (.int (rpV z u k)))) 0 0 nof := by
  refine k_hd (cc := cX6_ifRepaired) (maxL := 4) (ret := (some .int)) (by decide) rfl (Nat.le_of_ble_eq_true rfl) ?_
  intro p e s m below meth c ls S hr hlk hnm hK hP hl
  have hx := S.1
  have hb := S.2.1
  have hts := S.2.2.2.2
  obtain ⟨hP0, hP1⟩ := hP
  have hl : lv_has ls 4 [(0, .ref o), (1, .int (nI u)), (2, .int (nI k))] := hl
  have hc20 := iv_c hI
  refine lv_aload_n hx hb dX6_ifRepaired_0 rfl (lv_at hl 0 rfl) ?_
  refine lv_iload_n hx hb dX6_ifRepaired_1 rfl (lv_at hl 1 rfl) ?_
  refine k_V (As := [.int (nI u)]) (rest := []) S hK (c_X6_unitNumbered l E o z u hI hu) gX6_ifRepaired_X6_unitNumbered rfl hd_X6_unitNumbered ⟨rfl, rfl⟩ ⟨Nat.le_of_ble_eq_true rfl, Nat.le_of_ble_eq_true rfl⟩ (k_recv hK hP0 rfl) ⟨hP0, hP1⟩ rfl hl.1 rfl (Nat.le_of_ble_eq_true rfl) dX6_ifRepaired_2 ⟨Nat.le_of_ble_eq_true rfl, Nat.le_of_ble_eq_true rfl⟩ ?_
  refine lv_astore_n (lv' := [(3, .ref (o + 1 + 2*u + 19)), (0, .ref o), (1, .int (nI u)), (2, .int (nI k))]) hx hb dX6_ifRepaired_5 rfl hl (by decide) rfl (fun ls hl => ?_)
  refine lv_iload_n hx hb dX6_ifRepaired_6 rfl (lv_at hl 3 rfl) ?_
  refine lv_iconst (v := nI 0) hx hb dX6_ifRepaired_7 (by decide) ?_
  refine lv_iconst (v := nI 2) hx hb dX6_ifRepaired_8 (by decide) ?_
  refine k_S (As := [.int (nI k), .int (nI 0), .int (nI 2)]) (rest := []) S hK (c_X6_requireRange l E 0 2 (nI k) (in_n (by omega) (by omega) (by omega))) gX6_ifRepaired_X6_requireRange rfl hd_X6_requireRange ⟨rfl, rfl⟩ ⟨Nat.le_of_ble_eq_true rfl, Nat.le_of_ble_eq_true rfl⟩ trivial rfl hl.1 rfl (Nat.le_of_ble_eq_true rfl) dX6_ifRepaired_9 ⟨Nat.le_of_ble_eq_true rfl, Nat.le_of_ble_eq_true rfl⟩ ?_
  rcases (by omega : k = 0 ∨ k = 1 ∨ k = 2) with rfl | rfl | rfl
  · have hl : lv_has ls 4 [(3, .ref (o + 1 + 2*u + 19)), (0, .ref o), (1, .int (nI u)), (2, .int (nI 0))] := hl
    refine lv_aload_n hx hb dX6_ifRepaired_12 rfl (lv_at hl 0 rfl) ?_
    refine k_V (As := []) (rest := []) S hK (c_X4_isTested l E (o + 1) z u hu hI) gX6_ifRepaired_X4_isTested rfl hd_X4_isTested ⟨rfl, rfl⟩ ⟨Nat.le_of_ble_eq_true rfl, Nat.le_of_ble_eq_true rfl⟩ (k_recv hK (dz_u hP1 u hu) rfl) hP1 rfl hl.1 rfl (Nat.le_of_ble_eq_true rfl) dX6_ifRepaired_13 ⟨Nat.le_of_ble_eq_true rfl, Nat.le_of_ble_eq_true rfl⟩ ?_
    refine b_ne (tgt := 21) hx hb dX6_ifRepaired_16 (by decide) (fun c16 => ?_) (fun c16 => ?_)
    · refine lv_iload_n hx hb dX6_ifRepaired_21 rfl (lv_at hl 3 rfl) ?_
      refine lv_lookup (off := 26) (tgt := 48) hx hb dX6_ifRepaired_22 (by decide) (by decide) (by decide) ?_
      refine lv_aload_n hx hb dX6_ifRepaired_48 rfl (lv_at hl 1 rfl) ?_
      refine k_get S hK hP0 rfl (fun _ h => List.mem_cons_of_mem _ (List.mem_append_left _ (List.mem_append_left _ (List.mem_append_left _ (List.mem_append_left _ (List.mem_append_left _ (List.mem_append_right _ (h)))))))) 0 (by decide) (List.mem_cons_of_mem _ (List.mem_append_left _ (List.mem_append_left _ (List.mem_append_left _ (List.mem_append_left _ (List.mem_append_left _ (List.mem_append_left _ (List.mem_append_left _ (List.mem_of_getElem? (i := 0) rfl))))))))) rfl (v := .ref (o + 1)) rfl dX6_ifRepaired_49 ?_
      refine lv_aload_n hx hb dX6_ifRepaired_52 rfl (lv_at hl 0 rfl) ?_
      refine k_V (As := [.ref (o + 1 + 2*u + 19)]) (rest := []) S hK (c_X1_repairedGradeOf l E (o + 1) z u hu) gX6_ifRepaired_X1_repairedGradeOf rfl hd_X1_repairedGradeOf ⟨rfl, rfl⟩ ⟨Nat.le_of_ble_eq_true rfl, Nat.le_of_ble_eq_true rfl⟩ (k_recv hK (dz_d hP1) rfl) hP1 rfl hl.1 rfl (Nat.le_of_ble_eq_true rfl) dX6_ifRepaired_53 ⟨Nat.le_of_ble_eq_true rfl, Nat.le_of_ble_eq_true rfl⟩ ?_
      exact k_iret hx hb hr hlk dX6_ifRepaired_56 (iF_t c16)
    · refine lv_iconst (v := (-1)) hx hb dX6_ifRepaired_19 (by decide) ?_
      exact k_iret hx hb hr hlk dX6_ifRepaired_20 (iF_f c16)
  · have hl : lv_has ls 4 [(3, .ref (o + 1 + 2*u + 19)), (0, .ref o), (1, .int (nI u)), (2, .int (nI 1))] := hl
    refine lv_aload_n hx hb dX6_ifRepaired_12 rfl (lv_at hl 0 rfl) ?_
    refine k_V (As := []) (rest := []) S hK (c_X4_isTested l E (o + 1) z u hu hI) gX6_ifRepaired_X4_isTested rfl hd_X4_isTested ⟨rfl, rfl⟩ ⟨Nat.le_of_ble_eq_true rfl, Nat.le_of_ble_eq_true rfl⟩ (k_recv hK (dz_u hP1 u hu) rfl) hP1 rfl hl.1 rfl (Nat.le_of_ble_eq_true rfl) dX6_ifRepaired_13 ⟨Nat.le_of_ble_eq_true rfl, Nat.le_of_ble_eq_true rfl⟩ ?_
    refine b_ne (tgt := 21) hx hb dX6_ifRepaired_16 (by decide) (fun c16 => ?_) (fun c16 => ?_)
    · refine lv_iload_n hx hb dX6_ifRepaired_21 rfl (lv_at hl 3 rfl) ?_
      refine lv_lookup (off := 35) (tgt := 57) hx hb dX6_ifRepaired_22 (by decide) (by decide) (by decide) ?_
      refine lv_aload_n hx hb dX6_ifRepaired_57 rfl (lv_at hl 1 rfl) ?_
      refine k_get S hK hP0 rfl (fun _ h => List.mem_cons_of_mem _ (List.mem_append_left _ (List.mem_append_left _ (List.mem_append_left _ (List.mem_append_left _ (List.mem_append_left _ (List.mem_append_right _ (h)))))))) 0 (by decide) (List.mem_cons_of_mem _ (List.mem_append_left _ (List.mem_append_left _ (List.mem_append_left _ (List.mem_append_left _ (List.mem_append_left _ (List.mem_append_left _ (List.mem_append_left _ (List.mem_of_getElem? (i := 0) rfl))))))))) rfl (v := .ref (o + 1)) rfl dX6_ifRepaired_58 ?_
      refine lv_aload_n hx hb dX6_ifRepaired_61 rfl (lv_at hl 0 rfl) ?_
      refine k_V (As := [.ref (o + 1 + 2*u + 19)]) (rest := []) S hK (c_X1_repairCostOf l E (o + 1) z u hu c16) gX6_ifRepaired_X1_repairCostOf rfl hd_X1_repairCostOf ⟨rfl, rfl⟩ ⟨Nat.le_of_ble_eq_true rfl, Nat.le_of_ble_eq_true rfl⟩ (k_recv hK (dz_d hP1) rfl) hP1 rfl hl.1 rfl (Nat.le_of_ble_eq_true rfl) dX6_ifRepaired_62 ⟨Nat.le_of_ble_eq_true rfl, Nat.le_of_ble_eq_true rfl⟩ ?_
      exact k_iret hx hb hr hlk dX6_ifRepaired_65 (iF_t c16)
    · refine lv_iconst (v := (-1)) hx hb dX6_ifRepaired_19 (by decide) ?_
      exact k_iret hx hb hr hlk dX6_ifRepaired_20 (iF_f c16)
  · have hl : lv_has ls 4 [(3, .ref (o + 1 + 2*u + 19)), (0, .ref o), (1, .int (nI u)), (2, .int (nI 2))] := hl
    refine lv_aload_n hx hb dX6_ifRepaired_12 rfl (lv_at hl 0 rfl) ?_
    refine k_V (As := []) (rest := []) S hK (c_X4_isTested l E (o + 1) z u hu hI) gX6_ifRepaired_X4_isTested rfl hd_X4_isTested ⟨rfl, rfl⟩ ⟨Nat.le_of_ble_eq_true rfl, Nat.le_of_ble_eq_true rfl⟩ (k_recv hK (dz_u hP1 u hu) rfl) hP1 rfl hl.1 rfl (Nat.le_of_ble_eq_true rfl) dX6_ifRepaired_13 ⟨Nat.le_of_ble_eq_true rfl, Nat.le_of_ble_eq_true rfl⟩ ?_
    refine b_ne (tgt := 21) hx hb dX6_ifRepaired_16 (by decide) (fun c16 => ?_) (fun c16 => ?_)
    · refine lv_iload_n hx hb dX6_ifRepaired_21 rfl (lv_at hl 3 rfl) ?_
      refine lv_lookup (off := 44) (tgt := 66) hx hb dX6_ifRepaired_22 (by decide) (by decide) (by decide) ?_
      refine lv_aload_n hx hb dX6_ifRepaired_66 rfl (lv_at hl 1 rfl) ?_
      refine k_get S hK hP0 rfl (fun _ h => List.mem_cons_of_mem _ (List.mem_append_left _ (List.mem_append_left _ (List.mem_append_left _ (List.mem_append_left _ (List.mem_append_left _ (List.mem_append_right _ (h)))))))) 0 (by decide) (List.mem_cons_of_mem _ (List.mem_append_left _ (List.mem_append_left _ (List.mem_append_left _ (List.mem_append_left _ (List.mem_append_left _ (List.mem_append_left _ (List.mem_append_left _ (List.mem_of_getElem? (i := 0) rfl))))))))) rfl (v := .ref (o + 1)) rfl dX6_ifRepaired_67 ?_
      refine lv_aload_n hx hb dX6_ifRepaired_70 rfl (lv_at hl 0 rfl) ?_
      refine lv_aload_n hx hb dX6_ifRepaired_71 rfl (lv_at hl 1 rfl) ?_
      refine k_get S hK hP0 rfl (fun _ h => List.mem_cons_of_mem _ (List.mem_append_left _ (List.mem_append_left _ (List.mem_append_left _ (List.mem_append_left _ (List.mem_append_left _ (List.mem_append_right _ (h)))))))) 0 (by decide) (List.mem_cons_of_mem _ (List.mem_append_left _ (List.mem_append_left _ (List.mem_append_left _ (List.mem_append_left _ (List.mem_append_left _ (List.mem_append_left _ (List.mem_append_left _ (List.mem_of_getElem? (i := 0) rfl))))))))) rfl (v := .ref (o + 1)) rfl dX6_ifRepaired_72 ?_
      refine lv_aload_n hx hb dX6_ifRepaired_75 rfl (lv_at hl 0 rfl) ?_
      refine k_V (As := [.ref (o + 1 + 2*u + 19)]) (rest := [.ref (o + 1 + 2*u + 19), .ref (o + 1)]) S hK (c_X1_repairedGradeOf l E (o + 1) z u hu) gX6_ifRepaired_X1_repairedGradeOf rfl hd_X1_repairedGradeOf ⟨rfl, rfl⟩ ⟨Nat.le_of_ble_eq_true rfl, Nat.le_of_ble_eq_true rfl⟩ (k_recv hK (dz_d hP1) rfl) hP1 rfl hl.1 rfl (Nat.le_of_ble_eq_true rfl) dX6_ifRepaired_76 ⟨Nat.le_of_ble_eq_true rfl, Nat.le_of_ble_eq_true rfl⟩ ?_
      refine k_top (y := nI (gN z u (nI 1))) (gN_e.1) ?_
      refine k_V (As := [.ref (o + 1 + 2*u + 19), .int (nI (gN z u (nI 1)))]) (rest := []) S hK (c_X1_priceOf l E (o + 1) z u (gN z u (nI 1)) hI hu gN_e.2) gX6_ifRepaired_X1_priceOf rfl hd_X1_priceOf ⟨rfl, rfl⟩ ⟨Nat.le_of_ble_eq_true rfl, Nat.le_of_ble_eq_true rfl⟩ (k_recv hK (dz_d hP1) rfl) hP1 rfl hl.1 rfl (Nat.le_of_ble_eq_true rfl) dX6_ifRepaired_79 ⟨Nat.le_of_ble_eq_true rfl, Nat.le_of_ble_eq_true rfl⟩ ?_
      exact k_iret hx hb hr hlk dX6_ifRepaired_82 ((iF_t c16).trans (by rw [← gN_e.1]))
    · refine lv_iconst (v := (-1)) hx hb dX6_ifRepaired_19 (by decide) ?_
      exact k_iret hx hb hr hlk dX6_ifRepaired_20 (iF_f c16)
def rm_X6_bestRoute : Room := { frames := 4, cells := 0, slots := 0, locals := 87 }
theorem hd_X6_bestRoute : k_hd1 yX6_bestRoute RX6 1 := by decide +kernel
set_option maxHeartbeats 4000000 in
set_option maxRecDepth 100000 in
theorem c_X6_bestRoute (l : Launch) (E : ke_E) (o : Nat) (z : Nat → Int32) (u : Nat) (hI : iv z) (hu : u < cn z) : Met l yX6_bestRoute wsX6_bestRoute rm_X6_bestRoute (kp E [.ref o, .int (nI u)] (fun H => gg E o H ∧ dz E (o + 1) z H)) (qp (some (.int (rt z u 5).1))) 0 0 nof := by
  refine k_hd (cc := cX6_bestRoute) (maxL := 7) (ret := (some .int)) (by decide) rfl (Nat.le_of_ble_eq_true rfl) ?_
  intro p e s m below meth c ls S hr hlk hnm hK hP hl
  have hx := S.1
  have hb := S.2.1
  have hts := S.2.2.2.2
  obtain ⟨hP0, hP1⟩ := hP
  have hl : lv_has ls 7 [(0, .ref o), (1, .int (nI u))] := hl
  have hc20 := iv_c hI
  have J14 : ∀ (n_ : Nat), ∀ (r : Nat), 1 ≤ r → r ≤ 5 → 5 < r + n_ → ∀ (ls : Array Slot), lv_has ls 7 [(0, .ref o), (2, .ref (o + 1 + 2*u + 19)), (3, .int (rt z u r).1), (4, .int (rt z u r).2), (5, .int (nI r))] → W p l e (headSpec wsX6_bestRoute rm_X6_bestRoute).room s m ([.ref o, .int (nI u)] : List Value).toArray below meth c s.heap [] 0 0 (MQ below (qp (some (.int (rt z u 5).1))) ([.ref o, .int (nI u)] : List Value).toArray s 0 0 nof) (F0 m 14 ls []) := by
    intro n_
    induction n_ with
    | zero =>
      intro r hr1 hr5 hn_ _ _
      exact absurd hn_ (by omega)
    | succ n_ ih =>
      intro r hr1 hr5 hn_ ls hl
      rcases (by omega : r = 1 ∨ r = 2 ∨ r = 3 ∨ r = 4 ∨ r = 5) with rfl | rfl | rfl | rfl | rfl
      · have hl : lv_has ls 7 [(0, .ref o), (2, .ref (o + 1 + 2*u + 19)), (3, .int (rt z u 1).1), (4, .int (rt z u 1).2), (5, .int (nI 1))] := hl
        refine lv_iload hx hb dX6_bestRoute_14 (lv_at hl 4 rfl) ?_
        refine lv_iconst (v := nI 4) hx hb dX6_bestRoute_16 (by decide) ?_
        refine n_igt (tgt := 87) hx hb dX6_bestRoute_17 (by decide) (by omega) (by omega) (fun h => absurd h (by decide)) (fun c17 => ?_)
        refine lv_aload_n hx hb dX6_bestRoute_20 rfl (lv_at hl 0 rfl) ?_
        refine k_get S hK hP0 rfl (fun _ h => List.mem_cons_of_mem _ (List.mem_append_left _ (List.mem_append_left _ (List.mem_append_left _ (List.mem_append_left _ (List.mem_append_right _ (h))))))) 0 (by decide) (List.mem_cons_of_mem _ (List.mem_append_left _ (List.mem_append_left _ (List.mem_append_left _ (List.mem_append_left _ (List.mem_append_left _ (List.mem_append_left _ (List.mem_of_getElem? (i := 0) rfl)))))))) rfl (v := .ref (o + 1)) rfl dX6_bestRoute_21 ?_
        refine lv_aload_n hx hb dX6_bestRoute_24 rfl (lv_at hl 1 rfl) ?_
        refine lv_iload hx hb dX6_bestRoute_25 (lv_at hl 4 rfl) ?_
        refine k_V (As := [.ref (o + 1 + 2*u + 19), .int (nI 1)]) (rest := []) S hK (c_X1_obstacle_1 l E (o + 1) z u hI hu) gX6_bestRoute_X1_obstacle rfl hd_X1_obstacle ⟨rfl, rfl⟩ ⟨Nat.le_of_ble_eq_true rfl, Nat.le_of_ble_eq_true rfl⟩ (k_recv hK (dz_d hP1) rfl) hP1 rfl hl.1 rfl (Nat.le_of_ble_eq_true rfl) dX6_bestRoute_27 ⟨Nat.le_of_ble_eq_true rfl, Nat.le_of_ble_eq_true rfl⟩ ?_
        refine lv_if_ne (tgt := 81) hx hb dX6_bestRoute_30 (by decide) (fun c30 => ?_) (fun c30 => ?_)
        · refine lv_iinc (v := nI 2) (lv' := [(5, .int (nI 2)), (0, .ref o), (2, .ref (o + 1 + 2*u + 19)), (3, .int (rt z u 1).1), (4, .int (rt z u 1).2)]) hx hb dX6_bestRoute_81 hl (k := 4) rfl (by decide) (by decide) rfl (fun ls hl => ?_)
          refine lv_goto (tgt := 14) hx hb dX6_bestRoute_84 (by decide) ?_
          have hl : lv_has ls 7 [(0, .ref o), (2, .ref (o + 1 + 2*u + 19)), (3, .int (rt z u 2).1), (4, .int (rt z u 2).2), (5, .int (nI 2))] := by
            have h9 := lv_sub (l' := [(0, .ref o), (2, .ref (o + 1 + 2*u + 19)), (3, .int (rt z u 1).1), (4, .int (rt z u 1).2), (5, .int (nI 2))]) hl [1, 2, 3, 4, 0] rfl
            rw [show (.int (rt z u 2).1 : Value) = .int (rt z u 1).1 from congrArg Value.int ((congrArg Prod.fst (iF_f (fun h => c30 h.1))))]
            rw [show (.int (rt z u 2).2 : Value) = .int (rt z u 1).2 from congrArg Value.int ((congrArg Prod.snd (iF_f (fun h => c30 h.1))))]
            exact h9
          exact ih 2 (by omega) (by omega) (by omega) _ hl
        · refine lv_iload hx hb dX6_bestRoute_33 (lv_at hl 4 rfl) ?_
          refine lv_iconst (v := nI 1) hx hb dX6_bestRoute_35 (by decide) ?_
          refine n_ine (tgt := 50) hx hb dX6_bestRoute_36 (by decide) (by omega) (by omega) (fun h => absurd h (by decide)) (fun c36 => ?_)
          refine lv_aload_n hx hb dX6_bestRoute_39 rfl (lv_at hl 0 rfl) ?_
          refine k_get S hK hP0 rfl (fun _ h => List.mem_cons_of_mem _ (List.mem_append_left _ (List.mem_append_left _ (List.mem_append_left _ (List.mem_append_left _ (List.mem_append_right _ (h))))))) 0 (by decide) (List.mem_cons_of_mem _ (List.mem_append_left _ (List.mem_append_left _ (List.mem_append_left _ (List.mem_append_left _ (List.mem_append_left _ (List.mem_append_left _ (List.mem_of_getElem? (i := 0) rfl)))))))) rfl (v := .ref (o + 1)) rfl dX6_bestRoute_40 ?_
          refine lv_aload_n hx hb dX6_bestRoute_43 rfl (lv_at hl 1 rfl) ?_
          refine k_V (As := [.ref (o + 1 + 2*u + 19)]) (rest := []) S hK (c_X1_moneyBehindWorkshop l E (o + 1) z u hI hu (by first | exact wy1_t c30 | exact wy2_t c30)) gX6_bestRoute_X1_moneyBehindWorkshop rfl hd_X1_moneyBehindWorkshop ⟨rfl, rfl⟩ ⟨Nat.le_of_ble_eq_true rfl, Nat.le_of_ble_eq_true rfl⟩ (k_recv hK (dz_d hP1) rfl) hP1 rfl hl.1 rfl (Nat.le_of_ble_eq_true rfl) dX6_bestRoute_44 ⟨Nat.le_of_ble_eq_true rfl, Nat.le_of_ble_eq_true rfl⟩ ?_
          refine lv_goto (tgt := 60) hx hb dX6_bestRoute_47 (by decide) ?_
          refine lv_istore (lv' := [(6, .int (mon z u 1)), (0, .ref o), (2, .ref (o + 1 + 2*u + 19)), (3, .int (rt z u 1).1), (4, .int (rt z u 1).2), (5, .int (nI 1))]) hx hb dX6_bestRoute_60 hl (by decide) rfl (fun ls hl => ?_)
          refine lv_iload_n hx hb dX6_bestRoute_62 rfl (lv_at hl 3 rfl) ?_
          refine lv_iconst (v := (-1)) hx hb dX6_bestRoute_63 (by decide) ?_
          refine lv_icmp_eq (tgt := 74) hx hb dX6_bestRoute_64 (by decide) (fun c64 => ?_) (fun c64 => ?_)
          · refine lv_iload hx hb dX6_bestRoute_74 (lv_at hl 5 rfl) ?_
            refine lv_istore_n (lv' := [(3, .int (nI 1)), (6, .int (mon z u 1)), (0, .ref o), (2, .ref (o + 1 + 2*u + 19)), (4, .int (rt z u 1).2), (5, .int (nI 1))]) hx hb dX6_bestRoute_76 rfl hl (by decide) rfl (fun ls hl => ?_)
            refine lv_iload hx hb dX6_bestRoute_77 (lv_at hl 1 rfl) ?_
            refine lv_istore (lv' := [(4, .int (mon z u 1)), (3, .int (nI 1)), (6, .int (mon z u 1)), (0, .ref o), (2, .ref (o + 1 + 2*u + 19)), (5, .int (nI 1))]) hx hb dX6_bestRoute_79 hl (by decide) rfl (fun ls hl => ?_)
            refine lv_iinc (v := nI 2) (lv' := [(5, .int (nI 2)), (4, .int (mon z u 1)), (3, .int (nI 1)), (6, .int (mon z u 1)), (0, .ref o), (2, .ref (o + 1 + 2*u + 19))]) hx hb dX6_bestRoute_81 hl (k := 5) rfl (by decide) (by decide) rfl (fun ls hl => ?_)
            refine lv_goto (tgt := 14) hx hb dX6_bestRoute_84 (by decide) ?_
            have hl : lv_has ls 7 [(0, .ref o), (2, .ref (o + 1 + 2*u + 19)), (3, .int (rt z u 2).1), (4, .int (rt z u 2).2), (5, .int (nI 2))] := by
              have h9 := lv_sub (l' := [(0, .ref o), (2, .ref (o + 1 + 2*u + 19)), (3, .int (nI 1)), (4, .int (mon z u 1)), (5, .int (nI 2))]) hl [4, 5, 2, 1, 0] rfl
              rw [show (.int (rt z u 2).1 : Value) = .int (nI 1) from congrArg Value.int ((congrArg Prod.fst (iF_t ⟨c30, Or.inl c64⟩)))]
              rw [show (.int (rt z u 2).2 : Value) = .int (mon z u 1) from congrArg Value.int ((congrArg Prod.snd (iF_t ⟨c30, Or.inl c64⟩)))]
              exact h9
            exact ih 2 (by omega) (by omega) (by omega) _ hl
          · refine lv_iload hx hb dX6_bestRoute_67 (lv_at hl 0 rfl) ?_
            refine lv_iload hx hb dX6_bestRoute_69 (lv_at hl 4 rfl) ?_
            refine lv_icmp_le (tgt := 81) hx hb dX6_bestRoute_71 (by decide) (fun c71 => ?_) (fun c71 => ?_)
            · refine lv_iinc (v := nI 2) (lv' := [(5, .int (nI 2)), (6, .int (mon z u 1)), (0, .ref o), (2, .ref (o + 1 + 2*u + 19)), (3, .int (rt z u 1).1), (4, .int (rt z u 1).2)]) hx hb dX6_bestRoute_81 hl (k := 5) rfl (by decide) (by decide) rfl (fun ls hl => ?_)
              refine lv_goto (tgt := 14) hx hb dX6_bestRoute_84 (by decide) ?_
              have hl : lv_has ls 7 [(0, .ref o), (2, .ref (o + 1 + 2*u + 19)), (3, .int (rt z u 2).1), (4, .int (rt z u 2).2), (5, .int (nI 2))] := by
                have h9 := lv_sub (l' := [(0, .ref o), (2, .ref (o + 1 + 2*u + 19)), (3, .int (rt z u 1).1), (4, .int (rt z u 1).2), (5, .int (nI 2))]) hl [2, 3, 4, 5, 0] rfl
                rw [show (.int (rt z u 2).1 : Value) = .int (rt z u 1).1 from congrArg Value.int ((congrArg Prod.fst (iF_f (fun h => h.2.elim c64 (fun q => q c71)))))]
                rw [show (.int (rt z u 2).2 : Value) = .int (rt z u 1).2 from congrArg Value.int ((congrArg Prod.snd (iF_f (fun h => h.2.elim c64 (fun q => q c71)))))]
                exact h9
              exact ih 2 (by omega) (by omega) (by omega) _ hl
            · refine lv_iload hx hb dX6_bestRoute_74 (lv_at hl 5 rfl) ?_
              refine lv_istore_n (lv' := [(3, .int (nI 1)), (6, .int (mon z u 1)), (0, .ref o), (2, .ref (o + 1 + 2*u + 19)), (4, .int (rt z u 1).2), (5, .int (nI 1))]) hx hb dX6_bestRoute_76 rfl hl (by decide) rfl (fun ls hl => ?_)
              refine lv_iload hx hb dX6_bestRoute_77 (lv_at hl 1 rfl) ?_
              refine lv_istore (lv' := [(4, .int (mon z u 1)), (3, .int (nI 1)), (6, .int (mon z u 1)), (0, .ref o), (2, .ref (o + 1 + 2*u + 19)), (5, .int (nI 1))]) hx hb dX6_bestRoute_79 hl (by decide) rfl (fun ls hl => ?_)
              refine lv_iinc (v := nI 2) (lv' := [(5, .int (nI 2)), (4, .int (mon z u 1)), (3, .int (nI 1)), (6, .int (mon z u 1)), (0, .ref o), (2, .ref (o + 1 + 2*u + 19))]) hx hb dX6_bestRoute_81 hl (k := 5) rfl (by decide) (by decide) rfl (fun ls hl => ?_)
              refine lv_goto (tgt := 14) hx hb dX6_bestRoute_84 (by decide) ?_
              have hl : lv_has ls 7 [(0, .ref o), (2, .ref (o + 1 + 2*u + 19)), (3, .int (rt z u 2).1), (4, .int (rt z u 2).2), (5, .int (nI 2))] := by
                have h9 := lv_sub (l' := [(0, .ref o), (2, .ref (o + 1 + 2*u + 19)), (3, .int (nI 1)), (4, .int (mon z u 1)), (5, .int (nI 2))]) hl [4, 5, 2, 1, 0] rfl
                rw [show (.int (rt z u 2).1 : Value) = .int (nI 1) from congrArg Value.int ((congrArg Prod.fst (iF_t ⟨c30, Or.inr c71⟩)))]
                rw [show (.int (rt z u 2).2 : Value) = .int (mon z u 1) from congrArg Value.int ((congrArg Prod.snd (iF_t ⟨c30, Or.inr c71⟩)))]
                exact h9
              exact ih 2 (by omega) (by omega) (by omega) _ hl
      · have hl : lv_has ls 7 [(0, .ref o), (2, .ref (o + 1 + 2*u + 19)), (3, .int (rt z u 2).1), (4, .int (rt z u 2).2), (5, .int (nI 2))] := hl
        refine lv_iload hx hb dX6_bestRoute_14 (lv_at hl 4 rfl) ?_
        refine lv_iconst (v := nI 4) hx hb dX6_bestRoute_16 (by decide) ?_
        refine n_igt (tgt := 87) hx hb dX6_bestRoute_17 (by decide) (by omega) (by omega) (fun h => absurd h (by decide)) (fun c17 => ?_)
        refine lv_aload_n hx hb dX6_bestRoute_20 rfl (lv_at hl 0 rfl) ?_
        refine k_get S hK hP0 rfl (fun _ h => List.mem_cons_of_mem _ (List.mem_append_left _ (List.mem_append_left _ (List.mem_append_left _ (List.mem_append_left _ (List.mem_append_right _ (h))))))) 0 (by decide) (List.mem_cons_of_mem _ (List.mem_append_left _ (List.mem_append_left _ (List.mem_append_left _ (List.mem_append_left _ (List.mem_append_left _ (List.mem_append_left _ (List.mem_of_getElem? (i := 0) rfl)))))))) rfl (v := .ref (o + 1)) rfl dX6_bestRoute_21 ?_
        refine lv_aload_n hx hb dX6_bestRoute_24 rfl (lv_at hl 1 rfl) ?_
        refine lv_iload hx hb dX6_bestRoute_25 (lv_at hl 4 rfl) ?_
        refine k_V (As := [.ref (o + 1 + 2*u + 19), .int (nI 2)]) (rest := []) S hK (c_X1_obstacle_2 l E (o + 1) z u hI hu) gX6_bestRoute_X1_obstacle rfl hd_X1_obstacle ⟨rfl, rfl⟩ ⟨Nat.le_of_ble_eq_true rfl, Nat.le_of_ble_eq_true rfl⟩ (k_recv hK (dz_d hP1) rfl) hP1 rfl hl.1 rfl (Nat.le_of_ble_eq_true rfl) dX6_bestRoute_27 ⟨Nat.le_of_ble_eq_true rfl, Nat.le_of_ble_eq_true rfl⟩ ?_
        refine lv_if_ne (tgt := 81) hx hb dX6_bestRoute_30 (by decide) (fun c30 => ?_) (fun c30 => ?_)
        · refine lv_iinc (v := nI 3) (lv' := [(5, .int (nI 3)), (0, .ref o), (2, .ref (o + 1 + 2*u + 19)), (3, .int (rt z u 2).1), (4, .int (rt z u 2).2)]) hx hb dX6_bestRoute_81 hl (k := 4) rfl (by decide) (by decide) rfl (fun ls hl => ?_)
          refine lv_goto (tgt := 14) hx hb dX6_bestRoute_84 (by decide) ?_
          have hl : lv_has ls 7 [(0, .ref o), (2, .ref (o + 1 + 2*u + 19)), (3, .int (rt z u 3).1), (4, .int (rt z u 3).2), (5, .int (nI 3))] := by
            have h9 := lv_sub (l' := [(0, .ref o), (2, .ref (o + 1 + 2*u + 19)), (3, .int (rt z u 2).1), (4, .int (rt z u 2).2), (5, .int (nI 3))]) hl [1, 2, 3, 4, 0] rfl
            rw [show (.int (rt z u 3).1 : Value) = .int (rt z u 2).1 from congrArg Value.int ((congrArg Prod.fst (iF_f (fun h => c30 h.1))))]
            rw [show (.int (rt z u 3).2 : Value) = .int (rt z u 2).2 from congrArg Value.int ((congrArg Prod.snd (iF_f (fun h => c30 h.1))))]
            exact h9
          exact ih 3 (by omega) (by omega) (by omega) _ hl
        · refine lv_iload hx hb dX6_bestRoute_33 (lv_at hl 4 rfl) ?_
          refine lv_iconst (v := nI 1) hx hb dX6_bestRoute_35 (by decide) ?_
          refine n_ine (tgt := 50) hx hb dX6_bestRoute_36 (by decide) (by omega) (by omega) (fun c36 => ?_) (fun h => absurd h (by decide))
          refine lv_aload_n hx hb dX6_bestRoute_50 rfl (lv_at hl 0 rfl) ?_
          refine k_get S hK hP0 rfl (fun _ h => List.mem_cons_of_mem _ (List.mem_append_left _ (List.mem_append_left _ (List.mem_append_left _ (List.mem_append_left _ (List.mem_append_right _ (h))))))) 0 (by decide) (List.mem_cons_of_mem _ (List.mem_append_left _ (List.mem_append_left _ (List.mem_append_left _ (List.mem_append_left _ (List.mem_append_left _ (List.mem_append_left _ (List.mem_of_getElem? (i := 0) rfl)))))))) rfl (v := .ref (o + 1)) rfl dX6_bestRoute_51 ?_
          refine lv_aload_n hx hb dX6_bestRoute_54 rfl (lv_at hl 1 rfl) ?_
          refine lv_iload hx hb dX6_bestRoute_55 (lv_at hl 4 rfl) ?_
          refine k_V (As := [.ref (o + 1 + 2*u + 19), .int (nI 2)]) (rest := []) S hK (c_X1_moneyOn_2 l E (o + 1) z u hI hu (by first | exact wy1_t c30 | exact wy2_t c30)) gX6_bestRoute_X1_moneyOn rfl hd_X1_moneyOn ⟨rfl, rfl⟩ ⟨Nat.le_of_ble_eq_true rfl, Nat.le_of_ble_eq_true rfl⟩ (k_recv hK (dz_d hP1) rfl) hP1 rfl hl.1 rfl (Nat.le_of_ble_eq_true rfl) dX6_bestRoute_57 ⟨Nat.le_of_ble_eq_true rfl, Nat.le_of_ble_eq_true rfl⟩ ?_
          refine k_top (y := mon z u 2) ((iF_f (by decide) : mon z u _ = _).symm) ?_
          refine lv_istore (lv' := [(6, .int (mon z u 2)), (0, .ref o), (2, .ref (o + 1 + 2*u + 19)), (3, .int (rt z u 2).1), (4, .int (rt z u 2).2), (5, .int (nI 2))]) hx hb dX6_bestRoute_60 hl (by decide) rfl (fun ls hl => ?_)
          refine lv_iload_n hx hb dX6_bestRoute_62 rfl (lv_at hl 3 rfl) ?_
          refine lv_iconst (v := (-1)) hx hb dX6_bestRoute_63 (by decide) ?_
          refine lv_icmp_eq (tgt := 74) hx hb dX6_bestRoute_64 (by decide) (fun c64 => ?_) (fun c64 => ?_)
          · refine lv_iload hx hb dX6_bestRoute_74 (lv_at hl 5 rfl) ?_
            refine lv_istore_n (lv' := [(3, .int (nI 2)), (6, .int (mon z u 2)), (0, .ref o), (2, .ref (o + 1 + 2*u + 19)), (4, .int (rt z u 2).2), (5, .int (nI 2))]) hx hb dX6_bestRoute_76 rfl hl (by decide) rfl (fun ls hl => ?_)
            refine lv_iload hx hb dX6_bestRoute_77 (lv_at hl 1 rfl) ?_
            refine lv_istore (lv' := [(4, .int (mon z u 2)), (3, .int (nI 2)), (6, .int (mon z u 2)), (0, .ref o), (2, .ref (o + 1 + 2*u + 19)), (5, .int (nI 2))]) hx hb dX6_bestRoute_79 hl (by decide) rfl (fun ls hl => ?_)
            refine lv_iinc (v := nI 3) (lv' := [(5, .int (nI 3)), (4, .int (mon z u 2)), (3, .int (nI 2)), (6, .int (mon z u 2)), (0, .ref o), (2, .ref (o + 1 + 2*u + 19))]) hx hb dX6_bestRoute_81 hl (k := 5) rfl (by decide) (by decide) rfl (fun ls hl => ?_)
            refine lv_goto (tgt := 14) hx hb dX6_bestRoute_84 (by decide) ?_
            have hl : lv_has ls 7 [(0, .ref o), (2, .ref (o + 1 + 2*u + 19)), (3, .int (rt z u 3).1), (4, .int (rt z u 3).2), (5, .int (nI 3))] := by
              have h9 := lv_sub (l' := [(0, .ref o), (2, .ref (o + 1 + 2*u + 19)), (3, .int (nI 2)), (4, .int (mon z u 2)), (5, .int (nI 3))]) hl [4, 5, 2, 1, 0] rfl
              rw [show (.int (rt z u 3).1 : Value) = .int (nI 2) from congrArg Value.int ((congrArg Prod.fst (iF_t ⟨c30, Or.inl c64⟩)))]
              rw [show (.int (rt z u 3).2 : Value) = .int (mon z u 2) from congrArg Value.int ((congrArg Prod.snd (iF_t ⟨c30, Or.inl c64⟩)))]
              exact h9
            exact ih 3 (by omega) (by omega) (by omega) _ hl
          · refine lv_iload hx hb dX6_bestRoute_67 (lv_at hl 0 rfl) ?_
            refine lv_iload hx hb dX6_bestRoute_69 (lv_at hl 4 rfl) ?_
            refine lv_icmp_le (tgt := 81) hx hb dX6_bestRoute_71 (by decide) (fun c71 => ?_) (fun c71 => ?_)
            · refine lv_iinc (v := nI 3) (lv' := [(5, .int (nI 3)), (6, .int (mon z u 2)), (0, .ref o), (2, .ref (o + 1 + 2*u + 19)), (3, .int (rt z u 2).1), (4, .int (rt z u 2).2)]) hx hb dX6_bestRoute_81 hl (k := 5) rfl (by decide) (by decide) rfl (fun ls hl => ?_)
              refine lv_goto (tgt := 14) hx hb dX6_bestRoute_84 (by decide) ?_
              have hl : lv_has ls 7 [(0, .ref o), (2, .ref (o + 1 + 2*u + 19)), (3, .int (rt z u 3).1), (4, .int (rt z u 3).2), (5, .int (nI 3))] := by
                have h9 := lv_sub (l' := [(0, .ref o), (2, .ref (o + 1 + 2*u + 19)), (3, .int (rt z u 2).1), (4, .int (rt z u 2).2), (5, .int (nI 3))]) hl [2, 3, 4, 5, 0] rfl
                rw [show (.int (rt z u 3).1 : Value) = .int (rt z u 2).1 from congrArg Value.int ((congrArg Prod.fst (iF_f (fun h => h.2.elim c64 (fun q => q c71)))))]
                rw [show (.int (rt z u 3).2 : Value) = .int (rt z u 2).2 from congrArg Value.int ((congrArg Prod.snd (iF_f (fun h => h.2.elim c64 (fun q => q c71)))))]
                exact h9
              exact ih 3 (by omega) (by omega) (by omega) _ hl
            · refine lv_iload hx hb dX6_bestRoute_74 (lv_at hl 5 rfl) ?_
              refine lv_istore_n (lv' := [(3, .int (nI 2)), (6, .int (mon z u 2)), (0, .ref o), (2, .ref (o + 1 + 2*u + 19)), (4, .int (rt z u 2).2), (5, .int (nI 2))]) hx hb dX6_bestRoute_76 rfl hl (by decide) rfl (fun ls hl => ?_)
              refine lv_iload hx hb dX6_bestRoute_77 (lv_at hl 1 rfl) ?_
              refine lv_istore (lv' := [(4, .int (mon z u 2)), (3, .int (nI 2)), (6, .int (mon z u 2)), (0, .ref o), (2, .ref (o + 1 + 2*u + 19)), (5, .int (nI 2))]) hx hb dX6_bestRoute_79 hl (by decide) rfl (fun ls hl => ?_)
              refine lv_iinc (v := nI 3) (lv' := [(5, .int (nI 3)), (4, .int (mon z u 2)), (3, .int (nI 2)), (6, .int (mon z u 2)), (0, .ref o), (2, .ref (o + 1 + 2*u + 19))]) hx hb dX6_bestRoute_81 hl (k := 5) rfl (by decide) (by decide) rfl (fun ls hl => ?_)
              refine lv_goto (tgt := 14) hx hb dX6_bestRoute_84 (by decide) ?_
              have hl : lv_has ls 7 [(0, .ref o), (2, .ref (o + 1 + 2*u + 19)), (3, .int (rt z u 3).1), (4, .int (rt z u 3).2), (5, .int (nI 3))] := by
                have h9 := lv_sub (l' := [(0, .ref o), (2, .ref (o + 1 + 2*u + 19)), (3, .int (nI 2)), (4, .int (mon z u 2)), (5, .int (nI 3))]) hl [4, 5, 2, 1, 0] rfl
                rw [show (.int (rt z u 3).1 : Value) = .int (nI 2) from congrArg Value.int ((congrArg Prod.fst (iF_t ⟨c30, Or.inr c71⟩)))]
                rw [show (.int (rt z u 3).2 : Value) = .int (mon z u 2) from congrArg Value.int ((congrArg Prod.snd (iF_t ⟨c30, Or.inr c71⟩)))]
                exact h9
              exact ih 3 (by omega) (by omega) (by omega) _ hl
      · have hl : lv_has ls 7 [(0, .ref o), (2, .ref (o + 1 + 2*u + 19)), (3, .int (rt z u 3).1), (4, .int (rt z u 3).2), (5, .int (nI 3))] := hl
        refine lv_iload hx hb dX6_bestRoute_14 (lv_at hl 4 rfl) ?_
        refine lv_iconst (v := nI 4) hx hb dX6_bestRoute_16 (by decide) ?_
        refine n_igt (tgt := 87) hx hb dX6_bestRoute_17 (by decide) (by omega) (by omega) (fun h => absurd h (by decide)) (fun c17 => ?_)
        refine lv_aload_n hx hb dX6_bestRoute_20 rfl (lv_at hl 0 rfl) ?_
        refine k_get S hK hP0 rfl (fun _ h => List.mem_cons_of_mem _ (List.mem_append_left _ (List.mem_append_left _ (List.mem_append_left _ (List.mem_append_left _ (List.mem_append_right _ (h))))))) 0 (by decide) (List.mem_cons_of_mem _ (List.mem_append_left _ (List.mem_append_left _ (List.mem_append_left _ (List.mem_append_left _ (List.mem_append_left _ (List.mem_append_left _ (List.mem_of_getElem? (i := 0) rfl)))))))) rfl (v := .ref (o + 1)) rfl dX6_bestRoute_21 ?_
        refine lv_aload_n hx hb dX6_bestRoute_24 rfl (lv_at hl 1 rfl) ?_
        refine lv_iload hx hb dX6_bestRoute_25 (lv_at hl 4 rfl) ?_
        refine k_V (As := [.ref (o + 1 + 2*u + 19), .int (nI 3)]) (rest := []) S hK (c_X1_obstacle_3 l E (o + 1) z u hI hu) gX6_bestRoute_X1_obstacle rfl hd_X1_obstacle ⟨rfl, rfl⟩ ⟨Nat.le_of_ble_eq_true rfl, Nat.le_of_ble_eq_true rfl⟩ (k_recv hK (dz_d hP1) rfl) hP1 rfl hl.1 rfl (Nat.le_of_ble_eq_true rfl) dX6_bestRoute_27 ⟨Nat.le_of_ble_eq_true rfl, Nat.le_of_ble_eq_true rfl⟩ ?_
        refine lv_if_ne (tgt := 81) hx hb dX6_bestRoute_30 (by decide) (fun c30 => ?_) (fun c30 => ?_)
        · refine lv_iinc (v := nI 4) (lv' := [(5, .int (nI 4)), (0, .ref o), (2, .ref (o + 1 + 2*u + 19)), (3, .int (rt z u 3).1), (4, .int (rt z u 3).2)]) hx hb dX6_bestRoute_81 hl (k := 4) rfl (by decide) (by decide) rfl (fun ls hl => ?_)
          refine lv_goto (tgt := 14) hx hb dX6_bestRoute_84 (by decide) ?_
          have hl : lv_has ls 7 [(0, .ref o), (2, .ref (o + 1 + 2*u + 19)), (3, .int (rt z u 4).1), (4, .int (rt z u 4).2), (5, .int (nI 4))] := by
            have h9 := lv_sub (l' := [(0, .ref o), (2, .ref (o + 1 + 2*u + 19)), (3, .int (rt z u 3).1), (4, .int (rt z u 3).2), (5, .int (nI 4))]) hl [1, 2, 3, 4, 0] rfl
            rw [show (.int (rt z u 4).1 : Value) = .int (rt z u 3).1 from congrArg Value.int ((congrArg Prod.fst (iF_f (fun h => c30 h.1))))]
            rw [show (.int (rt z u 4).2 : Value) = .int (rt z u 3).2 from congrArg Value.int ((congrArg Prod.snd (iF_f (fun h => c30 h.1))))]
            exact h9
          exact ih 4 (by omega) (by omega) (by omega) _ hl
        · refine lv_iload hx hb dX6_bestRoute_33 (lv_at hl 4 rfl) ?_
          refine lv_iconst (v := nI 1) hx hb dX6_bestRoute_35 (by decide) ?_
          refine n_ine (tgt := 50) hx hb dX6_bestRoute_36 (by decide) (by omega) (by omega) (fun c36 => ?_) (fun h => absurd h (by decide))
          refine lv_aload_n hx hb dX6_bestRoute_50 rfl (lv_at hl 0 rfl) ?_
          refine k_get S hK hP0 rfl (fun _ h => List.mem_cons_of_mem _ (List.mem_append_left _ (List.mem_append_left _ (List.mem_append_left _ (List.mem_append_left _ (List.mem_append_right _ (h))))))) 0 (by decide) (List.mem_cons_of_mem _ (List.mem_append_left _ (List.mem_append_left _ (List.mem_append_left _ (List.mem_append_left _ (List.mem_append_left _ (List.mem_append_left _ (List.mem_of_getElem? (i := 0) rfl)))))))) rfl (v := .ref (o + 1)) rfl dX6_bestRoute_51 ?_
          refine lv_aload_n hx hb dX6_bestRoute_54 rfl (lv_at hl 1 rfl) ?_
          refine lv_iload hx hb dX6_bestRoute_55 (lv_at hl 4 rfl) ?_
          refine k_V (As := [.ref (o + 1 + 2*u + 19), .int (nI 3)]) (rest := []) S hK (c_X1_moneyOn_3 l E (o + 1) z u hI hu) gX6_bestRoute_X1_moneyOn rfl hd_X1_moneyOn ⟨rfl, rfl⟩ ⟨Nat.le_of_ble_eq_true rfl, Nat.le_of_ble_eq_true rfl⟩ (k_recv hK (dz_d hP1) rfl) hP1 rfl hl.1 rfl (Nat.le_of_ble_eq_true rfl) dX6_bestRoute_57 ⟨Nat.le_of_ble_eq_true rfl, Nat.le_of_ble_eq_true rfl⟩ ?_
          refine k_top (y := mon z u 3) ((iF_f (by decide) : mon z u _ = _).symm) ?_
          refine lv_istore (lv' := [(6, .int (mon z u 3)), (0, .ref o), (2, .ref (o + 1 + 2*u + 19)), (3, .int (rt z u 3).1), (4, .int (rt z u 3).2), (5, .int (nI 3))]) hx hb dX6_bestRoute_60 hl (by decide) rfl (fun ls hl => ?_)
          refine lv_iload_n hx hb dX6_bestRoute_62 rfl (lv_at hl 3 rfl) ?_
          refine lv_iconst (v := (-1)) hx hb dX6_bestRoute_63 (by decide) ?_
          refine lv_icmp_eq (tgt := 74) hx hb dX6_bestRoute_64 (by decide) (fun c64 => ?_) (fun c64 => ?_)
          · refine lv_iload hx hb dX6_bestRoute_74 (lv_at hl 5 rfl) ?_
            refine lv_istore_n (lv' := [(3, .int (nI 3)), (6, .int (mon z u 3)), (0, .ref o), (2, .ref (o + 1 + 2*u + 19)), (4, .int (rt z u 3).2), (5, .int (nI 3))]) hx hb dX6_bestRoute_76 rfl hl (by decide) rfl (fun ls hl => ?_)
            refine lv_iload hx hb dX6_bestRoute_77 (lv_at hl 1 rfl) ?_
            refine lv_istore (lv' := [(4, .int (mon z u 3)), (3, .int (nI 3)), (6, .int (mon z u 3)), (0, .ref o), (2, .ref (o + 1 + 2*u + 19)), (5, .int (nI 3))]) hx hb dX6_bestRoute_79 hl (by decide) rfl (fun ls hl => ?_)
            refine lv_iinc (v := nI 4) (lv' := [(5, .int (nI 4)), (4, .int (mon z u 3)), (3, .int (nI 3)), (6, .int (mon z u 3)), (0, .ref o), (2, .ref (o + 1 + 2*u + 19))]) hx hb dX6_bestRoute_81 hl (k := 5) rfl (by decide) (by decide) rfl (fun ls hl => ?_)
            refine lv_goto (tgt := 14) hx hb dX6_bestRoute_84 (by decide) ?_
            have hl : lv_has ls 7 [(0, .ref o), (2, .ref (o + 1 + 2*u + 19)), (3, .int (rt z u 4).1), (4, .int (rt z u 4).2), (5, .int (nI 4))] := by
              have h9 := lv_sub (l' := [(0, .ref o), (2, .ref (o + 1 + 2*u + 19)), (3, .int (nI 3)), (4, .int (mon z u 3)), (5, .int (nI 4))]) hl [4, 5, 2, 1, 0] rfl
              rw [show (.int (rt z u 4).1 : Value) = .int (nI 3) from congrArg Value.int ((congrArg Prod.fst (iF_t ⟨c30, Or.inl c64⟩)))]
              rw [show (.int (rt z u 4).2 : Value) = .int (mon z u 3) from congrArg Value.int ((congrArg Prod.snd (iF_t ⟨c30, Or.inl c64⟩)))]
              exact h9
            exact ih 4 (by omega) (by omega) (by omega) _ hl
          · refine lv_iload hx hb dX6_bestRoute_67 (lv_at hl 0 rfl) ?_
            refine lv_iload hx hb dX6_bestRoute_69 (lv_at hl 4 rfl) ?_
            refine lv_icmp_le (tgt := 81) hx hb dX6_bestRoute_71 (by decide) (fun c71 => ?_) (fun c71 => ?_)
            · refine lv_iinc (v := nI 4) (lv' := [(5, .int (nI 4)), (6, .int (mon z u 3)), (0, .ref o), (2, .ref (o + 1 + 2*u + 19)), (3, .int (rt z u 3).1), (4, .int (rt z u 3).2)]) hx hb dX6_bestRoute_81 hl (k := 5) rfl (by decide) (by decide) rfl (fun ls hl => ?_)
              refine lv_goto (tgt := 14) hx hb dX6_bestRoute_84 (by decide) ?_
              have hl : lv_has ls 7 [(0, .ref o), (2, .ref (o + 1 + 2*u + 19)), (3, .int (rt z u 4).1), (4, .int (rt z u 4).2), (5, .int (nI 4))] := by
                have h9 := lv_sub (l' := [(0, .ref o), (2, .ref (o + 1 + 2*u + 19)), (3, .int (rt z u 3).1), (4, .int (rt z u 3).2), (5, .int (nI 4))]) hl [2, 3, 4, 5, 0] rfl
                rw [show (.int (rt z u 4).1 : Value) = .int (rt z u 3).1 from congrArg Value.int ((congrArg Prod.fst (iF_f (fun h => h.2.elim c64 (fun q => q c71)))))]
                rw [show (.int (rt z u 4).2 : Value) = .int (rt z u 3).2 from congrArg Value.int ((congrArg Prod.snd (iF_f (fun h => h.2.elim c64 (fun q => q c71)))))]
                exact h9
              exact ih 4 (by omega) (by omega) (by omega) _ hl
            · refine lv_iload hx hb dX6_bestRoute_74 (lv_at hl 5 rfl) ?_
              refine lv_istore_n (lv' := [(3, .int (nI 3)), (6, .int (mon z u 3)), (0, .ref o), (2, .ref (o + 1 + 2*u + 19)), (4, .int (rt z u 3).2), (5, .int (nI 3))]) hx hb dX6_bestRoute_76 rfl hl (by decide) rfl (fun ls hl => ?_)
              refine lv_iload hx hb dX6_bestRoute_77 (lv_at hl 1 rfl) ?_
              refine lv_istore (lv' := [(4, .int (mon z u 3)), (3, .int (nI 3)), (6, .int (mon z u 3)), (0, .ref o), (2, .ref (o + 1 + 2*u + 19)), (5, .int (nI 3))]) hx hb dX6_bestRoute_79 hl (by decide) rfl (fun ls hl => ?_)
              refine lv_iinc (v := nI 4) (lv' := [(5, .int (nI 4)), (4, .int (mon z u 3)), (3, .int (nI 3)), (6, .int (mon z u 3)), (0, .ref o), (2, .ref (o + 1 + 2*u + 19))]) hx hb dX6_bestRoute_81 hl (k := 5) rfl (by decide) (by decide) rfl (fun ls hl => ?_)
              refine lv_goto (tgt := 14) hx hb dX6_bestRoute_84 (by decide) ?_
              have hl : lv_has ls 7 [(0, .ref o), (2, .ref (o + 1 + 2*u + 19)), (3, .int (rt z u 4).1), (4, .int (rt z u 4).2), (5, .int (nI 4))] := by
                have h9 := lv_sub (l' := [(0, .ref o), (2, .ref (o + 1 + 2*u + 19)), (3, .int (nI 3)), (4, .int (mon z u 3)), (5, .int (nI 4))]) hl [4, 5, 2, 1, 0] rfl
                rw [show (.int (rt z u 4).1 : Value) = .int (nI 3) from congrArg Value.int ((congrArg Prod.fst (iF_t ⟨c30, Or.inr c71⟩)))]
                rw [show (.int (rt z u 4).2 : Value) = .int (mon z u 3) from congrArg Value.int ((congrArg Prod.snd (iF_t ⟨c30, Or.inr c71⟩)))]
                exact h9
              exact ih 4 (by omega) (by omega) (by omega) _ hl
      · have hl : lv_has ls 7 [(0, .ref o), (2, .ref (o + 1 + 2*u + 19)), (3, .int (rt z u 4).1), (4, .int (rt z u 4).2), (5, .int (nI 4))] := hl
        refine lv_iload hx hb dX6_bestRoute_14 (lv_at hl 4 rfl) ?_
        refine lv_iconst (v := nI 4) hx hb dX6_bestRoute_16 (by decide) ?_
        refine n_igt (tgt := 87) hx hb dX6_bestRoute_17 (by decide) (by omega) (by omega) (fun h => absurd h (by decide)) (fun c17 => ?_)
        refine lv_aload_n hx hb dX6_bestRoute_20 rfl (lv_at hl 0 rfl) ?_
        refine k_get S hK hP0 rfl (fun _ h => List.mem_cons_of_mem _ (List.mem_append_left _ (List.mem_append_left _ (List.mem_append_left _ (List.mem_append_left _ (List.mem_append_right _ (h))))))) 0 (by decide) (List.mem_cons_of_mem _ (List.mem_append_left _ (List.mem_append_left _ (List.mem_append_left _ (List.mem_append_left _ (List.mem_append_left _ (List.mem_append_left _ (List.mem_of_getElem? (i := 0) rfl)))))))) rfl (v := .ref (o + 1)) rfl dX6_bestRoute_21 ?_
        refine lv_aload_n hx hb dX6_bestRoute_24 rfl (lv_at hl 1 rfl) ?_
        refine lv_iload hx hb dX6_bestRoute_25 (lv_at hl 4 rfl) ?_
        refine k_V (As := [.ref (o + 1 + 2*u + 19), .int (nI 4)]) (rest := []) S hK (c_X1_obstacle_4 l E (o + 1) z u hI hu) gX6_bestRoute_X1_obstacle rfl hd_X1_obstacle ⟨rfl, rfl⟩ ⟨Nat.le_of_ble_eq_true rfl, Nat.le_of_ble_eq_true rfl⟩ (k_recv hK (dz_d hP1) rfl) hP1 rfl hl.1 rfl (Nat.le_of_ble_eq_true rfl) dX6_bestRoute_27 ⟨Nat.le_of_ble_eq_true rfl, Nat.le_of_ble_eq_true rfl⟩ ?_
        refine lv_if_ne (tgt := 81) hx hb dX6_bestRoute_30 (by decide) (fun c30 => ?_) (fun c30 => ?_)
        · refine lv_iinc (v := nI 5) (lv' := [(5, .int (nI 5)), (0, .ref o), (2, .ref (o + 1 + 2*u + 19)), (3, .int (rt z u 4).1), (4, .int (rt z u 4).2)]) hx hb dX6_bestRoute_81 hl (k := 4) rfl (by decide) (by decide) rfl (fun ls hl => ?_)
          refine lv_goto (tgt := 14) hx hb dX6_bestRoute_84 (by decide) ?_
          have hl : lv_has ls 7 [(0, .ref o), (2, .ref (o + 1 + 2*u + 19)), (3, .int (rt z u 5).1), (4, .int (rt z u 5).2), (5, .int (nI 5))] := by
            have h9 := lv_sub (l' := [(0, .ref o), (2, .ref (o + 1 + 2*u + 19)), (3, .int (rt z u 4).1), (4, .int (rt z u 4).2), (5, .int (nI 5))]) hl [1, 2, 3, 4, 0] rfl
            rw [show (.int (rt z u 5).1 : Value) = .int (rt z u 4).1 from congrArg Value.int ((congrArg Prod.fst (iF_f (fun h => c30 h.1))))]
            rw [show (.int (rt z u 5).2 : Value) = .int (rt z u 4).2 from congrArg Value.int ((congrArg Prod.snd (iF_f (fun h => c30 h.1))))]
            exact h9
          exact ih 5 (by omega) (by omega) (by omega) _ hl
        · refine lv_iload hx hb dX6_bestRoute_33 (lv_at hl 4 rfl) ?_
          refine lv_iconst (v := nI 1) hx hb dX6_bestRoute_35 (by decide) ?_
          refine n_ine (tgt := 50) hx hb dX6_bestRoute_36 (by decide) (by omega) (by omega) (fun c36 => ?_) (fun h => absurd h (by decide))
          refine lv_aload_n hx hb dX6_bestRoute_50 rfl (lv_at hl 0 rfl) ?_
          refine k_get S hK hP0 rfl (fun _ h => List.mem_cons_of_mem _ (List.mem_append_left _ (List.mem_append_left _ (List.mem_append_left _ (List.mem_append_left _ (List.mem_append_right _ (h))))))) 0 (by decide) (List.mem_cons_of_mem _ (List.mem_append_left _ (List.mem_append_left _ (List.mem_append_left _ (List.mem_append_left _ (List.mem_append_left _ (List.mem_append_left _ (List.mem_of_getElem? (i := 0) rfl)))))))) rfl (v := .ref (o + 1)) rfl dX6_bestRoute_51 ?_
          refine lv_aload_n hx hb dX6_bestRoute_54 rfl (lv_at hl 1 rfl) ?_
          refine lv_iload hx hb dX6_bestRoute_55 (lv_at hl 4 rfl) ?_
          refine k_V (As := [.ref (o + 1 + 2*u + 19), .int (nI 4)]) (rest := []) S hK (c_X1_moneyOn_4 l E (o + 1) z u hI hu) gX6_bestRoute_X1_moneyOn rfl hd_X1_moneyOn ⟨rfl, rfl⟩ ⟨Nat.le_of_ble_eq_true rfl, Nat.le_of_ble_eq_true rfl⟩ (k_recv hK (dz_d hP1) rfl) hP1 rfl hl.1 rfl (Nat.le_of_ble_eq_true rfl) dX6_bestRoute_57 ⟨Nat.le_of_ble_eq_true rfl, Nat.le_of_ble_eq_true rfl⟩ ?_
          refine k_top (y := mon z u 4) ((iF_f (by decide) : mon z u _ = _).symm) ?_
          refine lv_istore (lv' := [(6, .int (mon z u 4)), (0, .ref o), (2, .ref (o + 1 + 2*u + 19)), (3, .int (rt z u 4).1), (4, .int (rt z u 4).2), (5, .int (nI 4))]) hx hb dX6_bestRoute_60 hl (by decide) rfl (fun ls hl => ?_)
          refine lv_iload_n hx hb dX6_bestRoute_62 rfl (lv_at hl 3 rfl) ?_
          refine lv_iconst (v := (-1)) hx hb dX6_bestRoute_63 (by decide) ?_
          refine lv_icmp_eq (tgt := 74) hx hb dX6_bestRoute_64 (by decide) (fun c64 => ?_) (fun c64 => ?_)
          · refine lv_iload hx hb dX6_bestRoute_74 (lv_at hl 5 rfl) ?_
            refine lv_istore_n (lv' := [(3, .int (nI 4)), (6, .int (mon z u 4)), (0, .ref o), (2, .ref (o + 1 + 2*u + 19)), (4, .int (rt z u 4).2), (5, .int (nI 4))]) hx hb dX6_bestRoute_76 rfl hl (by decide) rfl (fun ls hl => ?_)
            refine lv_iload hx hb dX6_bestRoute_77 (lv_at hl 1 rfl) ?_
            refine lv_istore (lv' := [(4, .int (mon z u 4)), (3, .int (nI 4)), (6, .int (mon z u 4)), (0, .ref o), (2, .ref (o + 1 + 2*u + 19)), (5, .int (nI 4))]) hx hb dX6_bestRoute_79 hl (by decide) rfl (fun ls hl => ?_)
            refine lv_iinc (v := nI 5) (lv' := [(5, .int (nI 5)), (4, .int (mon z u 4)), (3, .int (nI 4)), (6, .int (mon z u 4)), (0, .ref o), (2, .ref (o + 1 + 2*u + 19))]) hx hb dX6_bestRoute_81 hl (k := 5) rfl (by decide) (by decide) rfl (fun ls hl => ?_)
            refine lv_goto (tgt := 14) hx hb dX6_bestRoute_84 (by decide) ?_
            have hl : lv_has ls 7 [(0, .ref o), (2, .ref (o + 1 + 2*u + 19)), (3, .int (rt z u 5).1), (4, .int (rt z u 5).2), (5, .int (nI 5))] := by
              have h9 := lv_sub (l' := [(0, .ref o), (2, .ref (o + 1 + 2*u + 19)), (3, .int (nI 4)), (4, .int (mon z u 4)), (5, .int (nI 5))]) hl [4, 5, 2, 1, 0] rfl
              rw [show (.int (rt z u 5).1 : Value) = .int (nI 4) from congrArg Value.int ((congrArg Prod.fst (iF_t ⟨c30, Or.inl c64⟩)))]
              rw [show (.int (rt z u 5).2 : Value) = .int (mon z u 4) from congrArg Value.int ((congrArg Prod.snd (iF_t ⟨c30, Or.inl c64⟩)))]
              exact h9
            exact ih 5 (by omega) (by omega) (by omega) _ hl
          · refine lv_iload hx hb dX6_bestRoute_67 (lv_at hl 0 rfl) ?_
            refine lv_iload hx hb dX6_bestRoute_69 (lv_at hl 4 rfl) ?_
            refine lv_icmp_le (tgt := 81) hx hb dX6_bestRoute_71 (by decide) (fun c71 => ?_) (fun c71 => ?_)
            · refine lv_iinc (v := nI 5) (lv' := [(5, .int (nI 5)), (6, .int (mon z u 4)), (0, .ref o), (2, .ref (o + 1 + 2*u + 19)), (3, .int (rt z u 4).1), (4, .int (rt z u 4).2)]) hx hb dX6_bestRoute_81 hl (k := 5) rfl (by decide) (by decide) rfl (fun ls hl => ?_)
              refine lv_goto (tgt := 14) hx hb dX6_bestRoute_84 (by decide) ?_
              have hl : lv_has ls 7 [(0, .ref o), (2, .ref (o + 1 + 2*u + 19)), (3, .int (rt z u 5).1), (4, .int (rt z u 5).2), (5, .int (nI 5))] := by
                have h9 := lv_sub (l' := [(0, .ref o), (2, .ref (o + 1 + 2*u + 19)), (3, .int (rt z u 4).1), (4, .int (rt z u 4).2), (5, .int (nI 5))]) hl [2, 3, 4, 5, 0] rfl
                rw [show (.int (rt z u 5).1 : Value) = .int (rt z u 4).1 from congrArg Value.int ((congrArg Prod.fst (iF_f (fun h => h.2.elim c64 (fun q => q c71)))))]
                rw [show (.int (rt z u 5).2 : Value) = .int (rt z u 4).2 from congrArg Value.int ((congrArg Prod.snd (iF_f (fun h => h.2.elim c64 (fun q => q c71)))))]
                exact h9
              exact ih 5 (by omega) (by omega) (by omega) _ hl
            · refine lv_iload hx hb dX6_bestRoute_74 (lv_at hl 5 rfl) ?_
              refine lv_istore_n (lv' := [(3, .int (nI 4)), (6, .int (mon z u 4)), (0, .ref o), (2, .ref (o + 1 + 2*u + 19)), (4, .int (rt z u 4).2), (5, .int (nI 4))]) hx hb dX6_bestRoute_76 rfl hl (by decide) rfl (fun ls hl => ?_)
              refine lv_iload hx hb dX6_bestRoute_77 (lv_at hl 1 rfl) ?_
              refine lv_istore (lv' := [(4, .int (mon z u 4)), (3, .int (nI 4)), (6, .int (mon z u 4)), (0, .ref o), (2, .ref (o + 1 + 2*u + 19)), (5, .int (nI 4))]) hx hb dX6_bestRoute_79 hl (by decide) rfl (fun ls hl => ?_)
              refine lv_iinc (v := nI 5) (lv' := [(5, .int (nI 5)), (4, .int (mon z u 4)), (3, .int (nI 4)), (6, .int (mon z u 4)), (0, .ref o), (2, .ref (o + 1 + 2*u + 19))]) hx hb dX6_bestRoute_81 hl (k := 5) rfl (by decide) (by decide) rfl (fun ls hl => ?_)
              refine lv_goto (tgt := 14) hx hb dX6_bestRoute_84 (by decide) ?_
              have hl : lv_has ls 7 [(0, .ref o), (2, .ref (o + 1 + 2*u + 19)), (3, .int (rt z u 5).1), (4, .int (rt z u 5).2), (5, .int (nI 5))] := by
                have h9 := lv_sub (l' := [(0, .ref o), (2, .ref (o + 1 + 2*u + 19)), (3, .int (nI 4)), (4, .int (mon z u 4)), (5, .int (nI 5))]) hl [4, 5, 2, 1, 0] rfl
                rw [show (.int (rt z u 5).1 : Value) = .int (nI 4) from congrArg Value.int ((congrArg Prod.fst (iF_t ⟨c30, Or.inr c71⟩)))]
                rw [show (.int (rt z u 5).2 : Value) = .int (mon z u 4) from congrArg Value.int ((congrArg Prod.snd (iF_t ⟨c30, Or.inr c71⟩)))]
                exact h9
              exact ih 5 (by omega) (by omega) (by omega) _ hl
      · have hl : lv_has ls 7 [(0, .ref o), (2, .ref (o + 1 + 2*u + 19)), (3, .int (rt z u 5).1), (4, .int (rt z u 5).2), (5, .int (nI 5))] := hl
        refine lv_iload hx hb dX6_bestRoute_14 (lv_at hl 4 rfl) ?_
        refine lv_iconst (v := nI 4) hx hb dX6_bestRoute_16 (by decide) ?_
        refine n_igt (tgt := 87) hx hb dX6_bestRoute_17 (by decide) (by omega) (by omega) (fun c17 => ?_) (fun h => absurd h (by decide))
        refine lv_iload_n hx hb dX6_bestRoute_87 rfl (lv_at hl 2 rfl) ?_
        exact k_iret hx hb hr hlk dX6_bestRoute_88 (rfl)
  refine lv_aload_n hx hb dX6_bestRoute_0 rfl (lv_at hl 0 rfl) ?_
  refine lv_iload_n hx hb dX6_bestRoute_1 rfl (lv_at hl 1 rfl) ?_
  refine k_V (As := [.int (nI u)]) (rest := []) S hK (c_X6_unitNumbered l E o z u hI hu) gX6_bestRoute_X6_unitNumbered rfl hd_X6_unitNumbered ⟨rfl, rfl⟩ ⟨Nat.le_of_ble_eq_true rfl, Nat.le_of_ble_eq_true rfl⟩ (k_recv hK hP0 rfl) ⟨hP0, hP1⟩ rfl hl.1 rfl (Nat.le_of_ble_eq_true rfl) dX6_bestRoute_2 ⟨Nat.le_of_ble_eq_true rfl, Nat.le_of_ble_eq_true rfl⟩ ?_
  refine lv_astore_n (lv' := [(2, .ref (o + 1 + 2*u + 19)), (0, .ref o), (1, .int (nI u))]) hx hb dX6_bestRoute_5 rfl hl (by decide) rfl (fun ls hl => ?_)
  refine lv_iconst (v := (-1)) hx hb dX6_bestRoute_6 (by decide) ?_
  refine lv_istore_n (lv' := [(3, .int (-1)), (2, .ref (o + 1 + 2*u + 19)), (0, .ref o), (1, .int (nI u))]) hx hb dX6_bestRoute_7 rfl hl (by decide) rfl (fun ls hl => ?_)
  refine lv_iconst (v := nI 0) hx hb dX6_bestRoute_8 (by decide) ?_
  refine lv_istore (lv' := [(4, .int (nI 0)), (3, .int (-1)), (2, .ref (o + 1 + 2*u + 19)), (0, .ref o), (1, .int (nI u))]) hx hb dX6_bestRoute_9 hl (by decide) rfl (fun ls hl => ?_)
  refine lv_iconst (v := nI 1) hx hb dX6_bestRoute_11 (by decide) ?_
  refine lv_istore (lv' := [(5, .int (nI 1)), (4, .int (nI 0)), (3, .int (-1)), (2, .ref (o + 1 + 2*u + 19)), (0, .ref o), (1, .int (nI u))]) hx hb dX6_bestRoute_12 hl (by decide) rfl (fun ls hl => ?_)
  have hl : lv_has ls 7 [(0, .ref o), (2, .ref (o + 1 + 2*u + 19)), (3, .int (rt z u 1).1), (4, .int (rt z u 1).2), (5, .int (nI 1))] := by
    have h9 := lv_sub (l' := [(0, .ref o), (2, .ref (o + 1 + 2*u + 19)), (3, .int (-1)), (4, .int (nI 0)), (5, .int (nI 1))]) hl [4, 3, 2, 1, 0] rfl
    rw [show (.int (rt z u 1).1 : Value) = .int (-1) from congrArg Value.int (rfl)]
    rw [show (.int (rt z u 1).2 : Value) = .int (nI 0) from congrArg Value.int (rfl)]
    exact h9
  exact J14 (5 + 1) 1 (by omega) (by omega) (by omega) _ hl
def rm_X6_claimable : Room := { frames := 4, cells := 0, slots := 0, locals := 84 }
theorem hd_X6_claimable : k_hd1 yX6_claimable RX6 1 := by decide +kernel
set_option maxHeartbeats 4000000 in
set_option maxRecDepth 100000 in
theorem c_X6_claimable (l : Launch) (E : ke_E) (o : Nat) (z : Nat → Int32) (u : Nat) (hI : iv z) (hu : u < cn z) : Met l yX6_claimable wsX6_claimable rm_X6_claimable (kp E [.ref o, .int (nI u)] (fun H => gg E o H ∧ dz E (o + 1) z H)) (qp (some (.int (amT z u)))) 0 0 nof := by
  refine k_hd (cc := cX6_claimable) (maxL := 3) (ret := (some .int)) (by decide) rfl (Nat.le_of_ble_eq_true rfl) ?_
  intro p e s m below meth c ls S hr hlk hnm hK hP hl
  have hx := S.1
  have hb := S.2.1
  have hts := S.2.2.2.2
  obtain ⟨hP0, hP1⟩ := hP
  have hl : lv_has ls 3 [(0, .ref o), (1, .int (nI u))] := hl
  have hc20 := iv_c hI
  refine lv_aload_n hx hb dX6_claimable_0 rfl (lv_at hl 0 rfl) ?_
  refine lv_iload_n hx hb dX6_claimable_1 rfl (lv_at hl 1 rfl) ?_
  refine k_V (As := [.int (nI u)]) (rest := []) S hK (c_X6_unitNumbered l E o z u hI hu) gX6_claimable_X6_unitNumbered rfl hd_X6_unitNumbered ⟨rfl, rfl⟩ ⟨Nat.le_of_ble_eq_true rfl, Nat.le_of_ble_eq_true rfl⟩ (k_recv hK hP0 rfl) ⟨hP0, hP1⟩ rfl hl.1 rfl (Nat.le_of_ble_eq_true rfl) dX6_claimable_2 ⟨Nat.le_of_ble_eq_true rfl, Nat.le_of_ble_eq_true rfl⟩ ?_
  refine lv_astore_n (lv' := [(2, .ref (o + 1 + 2*u + 19)), (0, .ref o), (1, .int (nI u))]) hx hb dX6_claimable_5 rfl hl (by decide) rfl (fun ls hl => ?_)
  refine lv_aload_n hx hb dX6_claimable_6 rfl (lv_at hl 0 rfl) ?_
  refine k_V (As := []) (rest := []) S hK (c_X4_isTested l E (o + 1) z u hu hI) gX6_claimable_X4_isTested rfl hd_X4_isTested ⟨rfl, rfl⟩ ⟨Nat.le_of_ble_eq_true rfl, Nat.le_of_ble_eq_true rfl⟩ (k_recv hK (dz_u hP1 u hu) rfl) hP1 rfl hl.1 rfl (Nat.le_of_ble_eq_true rfl) dX6_claimable_7 ⟨Nat.le_of_ble_eq_true rfl, Nat.le_of_ble_eq_true rfl⟩ ?_
  refine b_eq (tgt := 24) hx hb dX6_claimable_10 (by decide) (fun c10 => ?_) (fun c10 => ?_)
  · refine lv_iconst (v := (-1)) hx hb dX6_claimable_24 (by decide) ?_
    exact k_iret hx hb hr hlk dX6_claimable_25 (iF_f c10)
  · refine lv_aload_n hx hb dX6_claimable_13 rfl (lv_at hl 1 rfl) ?_
    refine k_get S hK hP0 rfl (fun _ h => List.mem_cons_of_mem _ (List.mem_append_left _ (List.mem_append_left _ (List.mem_append_left _ (List.mem_append_left _ (List.mem_append_left _ (List.mem_append_right _ (h)))))))) 0 (by decide) (List.mem_cons_of_mem _ (List.mem_append_left _ (List.mem_append_left _ (List.mem_append_left _ (List.mem_append_left _ (List.mem_append_left _ (List.mem_append_left _ (List.mem_append_left _ (List.mem_of_getElem? (i := 0) rfl))))))))) rfl (v := .ref (o + 1)) rfl dX6_claimable_14 ?_
    refine lv_aload_n hx hb dX6_claimable_17 rfl (lv_at hl 0 rfl) ?_
    refine k_V (As := [.ref (o + 1 + 2*u + 19)]) (rest := []) S hK (c_X1_claimAmount l E (o + 1) z u hI hu c10) gX6_claimable_X1_claimAmount rfl hd_X1_claimAmount ⟨rfl, rfl⟩ ⟨Nat.le_of_ble_eq_true rfl, Nat.le_of_ble_eq_true rfl⟩ (k_recv hK (dz_d hP1) rfl) hP1 rfl hl.1 rfl (Nat.le_of_ble_eq_true rfl) dX6_claimable_18 ⟨Nat.le_of_ble_eq_true rfl, Nat.le_of_ble_eq_true rfl⟩ ?_
    refine lv_goto (tgt := 25) hx hb dX6_claimable_21 (by decide) ?_
    exact k_iret hx hb hr hlk dX6_claimable_25 (iF_t c10)
def rm_X6_workDays : Room := { frames := 4, cells := 0, slots := 0, locals := 85 }
theorem hd_X6_workDays : k_hd1 yX6_workDays RX6 0 := by decide +kernel
set_option maxHeartbeats 4000000 in
set_option maxRecDepth 100000 in
theorem c_X6_workDays (l : Launch) (E : ke_E) (o : Nat) (z : Nat → Int32) (hI : iv z) : Met l yX6_workDays wsX6_workDays rm_X6_workDays (kp E [.ref o] (fun H => gg E o H ∧ dz E (o + 1) z H)) (qp (some (.int (wdV z)))) 0 0 nof := by
  refine k_hd (cc := cX6_workDays) (maxL := 2) (ret := (some .int)) (by decide) rfl (Nat.le_of_ble_eq_true rfl) ?_
  intro p e s m below meth c ls S hr hlk hnm hK hP hl
  have hx := S.1
  have hb := S.2.1
  have hts := S.2.2.2.2
  obtain ⟨hP0, hP1⟩ := hP
  have hl : lv_has ls 2 [(0, .ref o)] := hl
  have hc20 := iv_c hI
  have hpd := iv_pd1 hI
  refine lv_aload_n hx hb dX6_workDays_0 rfl (lv_at hl 0 rfl) ?_
  refine k_get S hK hP0 rfl (fun _ h => List.mem_cons_of_mem _ (List.mem_append_left _ (List.mem_append_left _ (List.mem_append_left _ (List.mem_append_right _ (h)))))) 0 (by decide) (List.mem_cons_of_mem _ (List.mem_append_left _ (List.mem_append_left _ (List.mem_append_left _ (List.mem_append_left _ (List.mem_append_left _ (List.mem_of_getElem? (i := 0) rfl))))))) rfl (v := .ref (o + 1)) rfl dX6_workDays_1 ?_
  refine k_get S hK (dz_d hP1) rfl (fun _ h => List.mem_cons_of_mem _ (List.mem_append_left _ (List.mem_append_left _ (List.mem_append_right _ (h))))) 3 (by decide) (List.mem_cons_of_mem _ (List.mem_append_left _ (List.mem_append_left _ (List.mem_append_left _ (List.mem_append_left _ (List.mem_append_left _ (List.mem_of_getElem? (i := 1) rfl))))))) rfl (v := .ref (o + 1 + 4)) rfl dX6_workDays_4 ?_
  refine lv_iconst (v := nI 3) hx hb dX6_workDays_7 (by decide) ?_
  refine k_iald hx hb hK (dz_st hP1) (by omega) (by decide) (v := nI (pd z)) (iv_pd hI) dX6_workDays_8 ?_
  refine lv_istore_n (lv' := [(1, .int (nI (pd z))), (0, .ref o)]) hx hb dX6_workDays_9 rfl hl (by decide) rfl (fun ls hl => ?_)
  refine lv_iload_n hx hb dX6_workDays_10 rfl (lv_at hl 0 rfl) ?_
  refine lv_iconst (v := nI 1) hx hb dX6_workDays_11 (by decide) ?_
  refine n_ige (tgt := 17) hx hb dX6_workDays_12 (by decide) (by omega) (by omega) (fun c12 => ?_) (fun h => absurd h (by omega))
  refine lv_aload_n hx hb dX6_workDays_17 rfl (lv_at hl 1 rfl) ?_
  refine k_get S hK hP0 rfl (fun _ h => List.mem_cons_of_mem _ (List.mem_append_left _ (List.mem_append_left _ (List.mem_append_left _ (List.mem_append_right _ (h)))))) 0 (by decide) (List.mem_cons_of_mem _ (List.mem_append_left _ (List.mem_append_left _ (List.mem_append_left _ (List.mem_append_left _ (List.mem_append_left _ (List.mem_of_getElem? (i := 0) rfl))))))) rfl (v := .ref (o + 1)) rfl dX6_workDays_18 ?_
  refine k_V (As := []) (rest := []) S hK (c_X1_unitsToRepair l E (o + 1) z hI) gX6_workDays_X1_unitsToRepair rfl hd_X1_unitsToRepair ⟨rfl, rfl⟩ ⟨Nat.le_of_ble_eq_true rfl, Nat.le_of_ble_eq_true rfl⟩ (k_recv hK (dz_d hP1) rfl) hP1 rfl hl.1 rfl (Nat.le_of_ble_eq_true rfl) dX6_workDays_21 ⟨Nat.le_of_ble_eq_true rfl, Nat.le_of_ble_eq_true rfl⟩ ?_
  refine lv_iload_n hx hb dX6_workDays_24 rfl (lv_at hl 0 rfl) ?_
  refine lv_iadd hx hb dX6_workDays_25 ?_
  refine lv_iconst (v := nI 1) hx hb dX6_workDays_26 (by decide) ?_
  refine lv_isub hx hb dX6_workDays_27 ?_
  refine lv_iload_n hx hb dX6_workDays_28 rfl (lv_at hl 0 rfl) ?_
  refine lv_idiv hx hb dX6_workDays_29 (nI_ne0 (by omega) (by omega)) ?_
  exact k_iret hx hb hr hlk dX6_workDays_30 (rfl)
def rm_X6_backShare : Room := { frames := 3, cells := 0, slots := 0, locals := 64 }
theorem hd_X6_backShare : k_hd1 yX6_backShare RX6 0 := by decide +kernel
set_option maxHeartbeats 4000000 in
set_option maxRecDepth 100000 in
theorem c_X6_backShare (l : Launch) (E : ke_E) (o : Nat) (z : Nat → Int32) (hI : iv z) (hJ : jw z) : Met l yX6_backShare wsX6_backShare rm_X6_backShare (kp E [.ref o] (fun H => gg E o H ∧ dz E (o + 1) z H)) (qp (some (.double (bkD z)))) 0 0 nof := by
  refine k_hd (cc := cX6_backShare) (maxL := 2) (ret := (some .double)) (by decide) rfl (Nat.le_of_ble_eq_true rfl) ?_
  intro p e s m below meth c ls S hr hlk hnm hK hP hl
  have hx := S.1
  have hb := S.2.1
  have hts := S.2.2.2.2
  obtain ⟨hP0, hP1⟩ := hP
  have hl : lv_has ls 2 [(0, .ref o)] := hl
  have hc20 := iv_c hI
  refine lv_aload_n hx hb dX6_backShare_0 rfl (lv_at hl 0 rfl) ?_
  refine k_get S hK hP0 rfl (fun _ h => List.mem_cons_of_mem _ (List.mem_append_left _ (List.mem_append_left _ (List.mem_append_left _ (List.mem_append_left _ (List.mem_append_right _ (h))))))) 0 (by decide) (List.mem_cons_of_mem _ (List.mem_append_left _ (List.mem_append_left _ (List.mem_append_left _ (List.mem_append_left _ (List.mem_append_left _ (List.mem_append_left _ (List.mem_of_getElem? (i := 0) rfl)))))))) rfl (v := .ref (o + 1)) rfl dX6_backShare_1 ?_
  refine k_V (As := []) (rest := []) S hK (c_X1_costOfAllUnits l E (o + 1) z hI) gX6_backShare_X1_costOfAllUnits rfl hd_X1_costOfAllUnits ⟨rfl, rfl⟩ ⟨Nat.le_of_ble_eq_true rfl, Nat.le_of_ble_eq_true rfl⟩ (k_recv hK (dz_d hP1) rfl) hP1 rfl hl.1 rfl (Nat.le_of_ble_eq_true rfl) dX6_backShare_4 ⟨Nat.le_of_ble_eq_true rfl, Nat.le_of_ble_eq_true rfl⟩ ?_
  refine lv_istore_n (lv' := [(1, .int (coN z (cn z))), (0, .ref o)]) hx hb dX6_backShare_7 rfl hl (by decide) rfl (fun ls hl => ?_)
  refine lv_iload_n hx hb dX6_backShare_8 rfl (lv_at hl 0 rfl) ?_
  refine lv_if_gt (tgt := 14) hx hb dX6_backShare_9 (by decide) (fun c9 => ?_) (fun c9 => ?_)
  · refine lv_aload_n hx hb dX6_backShare_14 rfl (lv_at hl 1 rfl) ?_
    refine k_get S hK hP0 rfl (fun _ h => List.mem_cons_of_mem _ (List.mem_append_left _ (List.mem_append_left _ (List.mem_append_left _ (List.mem_append_left _ (List.mem_append_right _ (h))))))) 0 (by decide) (List.mem_cons_of_mem _ (List.mem_append_left _ (List.mem_append_left _ (List.mem_append_left _ (List.mem_append_left _ (List.mem_append_left _ (List.mem_append_left _ (List.mem_of_getElem? (i := 0) rfl)))))))) rfl (v := .ref (o + 1)) rfl dX6_backShare_15 ?_
    refine k_V (As := []) (rest := []) S hK (c_X1_moneyBySales l E (o + 1) z hI) gX6_backShare_X1_moneyBySales rfl hd_X1_moneyBySales ⟨rfl, rfl⟩ ⟨Nat.le_of_ble_eq_true rfl, Nat.le_of_ble_eq_true rfl⟩ (k_recv hK (dz_d hP1) rfl) hP1 rfl hl.1 rfl (Nat.le_of_ble_eq_true rfl) dX6_backShare_18 ⟨Nat.le_of_ble_eq_true rfl, Nat.le_of_ble_eq_true rfl⟩ ?_
    refine lv_aload_n hx hb dX6_backShare_21 rfl (lv_at hl 1 rfl) ?_
    refine k_get S hK hP0 rfl (fun _ h => List.mem_cons_of_mem _ (List.mem_append_left _ (List.mem_append_left _ (List.mem_append_left _ (List.mem_append_left _ (List.mem_append_right _ (h))))))) 0 (by decide) (List.mem_cons_of_mem _ (List.mem_append_left _ (List.mem_append_left _ (List.mem_append_left _ (List.mem_append_left _ (List.mem_append_left _ (List.mem_append_left _ (List.mem_of_getElem? (i := 0) rfl)))))))) rfl (v := .ref (o + 1)) rfl dX6_backShare_22 ?_
    refine k_V (As := []) (rest := [.int (saN z (cn z))]) S hK (c_X1_moneyByVendors l E (o + 1) z) gX6_backShare_X1_moneyByVendors rfl hd_X1_moneyByVendors ⟨rfl, rfl⟩ ⟨Nat.le_of_ble_eq_true rfl, Nat.le_of_ble_eq_true rfl⟩ (k_recv hK (dz_d hP1) rfl) hP1 rfl hl.1 rfl (Nat.le_of_ble_eq_true rfl) dX6_backShare_25 ⟨Nat.le_of_ble_eq_true rfl, Nat.le_of_ble_eq_true rfl⟩ ?_
    refine lv_iadd hx hb dX6_backShare_28 ?_
    refine lv_aload_n hx hb dX6_backShare_29 rfl (lv_at hl 1 rfl) ?_
    refine k_get S hK hP0 rfl (fun _ h => List.mem_cons_of_mem _ (List.mem_append_left _ (List.mem_append_left _ (List.mem_append_left _ (List.mem_append_left _ (List.mem_append_right _ (h))))))) 0 (by decide) (List.mem_cons_of_mem _ (List.mem_append_left _ (List.mem_append_left _ (List.mem_append_left _ (List.mem_append_left _ (List.mem_append_left _ (List.mem_append_left _ (List.mem_of_getElem? (i := 0) rfl)))))))) rfl (v := .ref (o + 1)) rfl dX6_backShare_30 ?_
    refine k_V (As := []) (rest := [.int ((saN z (cn z)) + (vmZ z))]) S hK (c_X1_workshopCost l E (o + 1) z hI) gX6_backShare_X1_workshopCost rfl hd_X1_workshopCost ⟨rfl, rfl⟩ ⟨Nat.le_of_ble_eq_true rfl, Nat.le_of_ble_eq_true rfl⟩ (k_recv hK (dz_d hP1) rfl) hP1 rfl hl.1 rfl (Nat.le_of_ble_eq_true rfl) dX6_backShare_33 ⟨Nat.le_of_ble_eq_true rfl, Nat.le_of_ble_eq_true rfl⟩ ?_
    refine lv_isub hx hb dX6_backShare_36 ?_
    refine lv_i2d hx hb dX6_backShare_37 ?_
    refine lv_iload_n hx hb dX6_backShare_38 rfl (lv_at hl 0 rfl) ?_
    refine lv_i2d hx hb dX6_backShare_39 ?_
    refine lv_ddiv hx hb dX6_backShare_40 (fp_nn (fp_nnq _ _ (by have h9 := Int32.lt_iff_toInt_lt.mp c9; intro q; rw [q] at h9; exact absurd h9 (by decide)))) ?_
    exact k_dret hx hb hr hlk dX6_backShare_41 ((iF_f (fun h => absurd c9 (by rw [h]; decide))).trans (by rw [hJ.1, hJ.2.1, hJ.2.2.1]))
  · refine lv_dconst0 hx hb dX6_backShare_12 ?_
    exact k_dret hx hb hr hlk dX6_backShare_13 (iF_t (by rcases coN_0 hI with k | k; exact k; exact absurd (show (0:Int32) < coN z (cn z) from Int32.lt_iff_toInt_lt.mpr (by show (0:Int) < _; exact k)) c9))
def rm_X6_ifClosed : Room := { frames := 5, cells := 0, slots := 0, locals := 113 }
theorem hd_X6_ifClosed : k_hd1 yX6_ifClosed RX6 0 := by decide +kernel
set_option maxHeartbeats 4000000 in
set_option maxRecDepth 100000 in
theorem c_X6_ifClosed (l : Launch) (E : ke_E) (o : Nat) (z : Nat → Int32) (hI : iv z) : Met l yX6_ifClosed wsX6_ifClosed rm_X6_ifClosed (kp E [.ref o] (fun H => gg E o H ∧ dz E (o + 1) z H ∧ tr E (o + 60) H)) (qm (some (.int (cloZ z).2)) (bl (o + 60) 59) (tr E (o + 60))) 0 0 (bl (o + 60) 59) := by
  refine k_hd (cc := cX6_ifClosed) (maxL := 1) (ret := (some .int)) (by decide) rfl (Nat.le_of_ble_eq_true rfl) ?_
  intro p e s m below meth c ls S hr hlk hnm hK hP hl
  have hx := S.1
  have hb := S.2.1
  have hts := S.2.2.2.2
  obtain ⟨hP0, hP1, hP2⟩ := hP
  have hl : lv_has ls 1 [(0, .ref o)] := hl
  have hS : va_S (bl (o + 60) 59) s.heap s.heap [] := va_S.rf
  refine lv_aload_n hx hb dX6_ifClosed_0 rfl (lv_at hl 0 rfl) ?_
  refine k_get S hK hP0 rfl (fun _ h => List.mem_cons_of_mem _ (List.mem_append_left _ (List.mem_append_left _ (List.mem_append_left _ (List.mem_append_left _ (List.mem_append_right _ (h))))))) 1 (by decide) (List.mem_cons_of_mem _ (List.mem_append_left _ (List.mem_append_left _ (List.mem_append_left _ (List.mem_append_left _ (List.mem_append_left _ (List.mem_append_left _ (List.mem_of_getElem? (i := 0) rfl)))))))) rfl (v := .ref (o + 60)) rfl dX6_ifClosed_1 ?_
  refine lv_aload_n hx hb dX6_ifClosed_4 rfl (lv_at hl 0 rfl) ?_
  refine k_get S hK hP0 rfl (fun _ h => List.mem_cons_of_mem _ (List.mem_append_left _ (List.mem_append_left _ (List.mem_append_left _ (List.mem_append_left _ (List.mem_append_right _ (h))))))) 0 (by decide) (List.mem_cons_of_mem _ (List.mem_append_left _ (List.mem_append_left _ (List.mem_append_left _ (List.mem_append_left _ (List.mem_append_left _ (List.mem_append_left _ (List.mem_of_getElem? (i := 1) rfl)))))))) rfl (v := .ref (o + 1)) rfl dX6_ifClosed_5 ?_
  obtain ⟨y9, hy9⟩ := hP2
  refine k_VM (As := [.ref (o + 1)]) (rest := []) S hK (c_X1_copyFrom l E (o + 60) y9 (o + 1) z (by omega) hI) gX6_ifClosed_X1_copyFrom rfl hd_X1_copyFrom ⟨rfl, rfl⟩ ⟨Nat.le_of_ble_eq_true rfl, Nat.le_of_ble_eq_true rfl⟩ (k_recv hK (dz_d hy9) rfl) ⟨hy9, hP1⟩ rfl hl.1 rfl (Nat.le_of_ble_eq_true rfl) dX6_ifClosed_8 ⟨Nat.le_of_ble_eq_true rfl, Nat.le_of_ble_eq_true rfl⟩ hS (fun q h => h) (fun q h => h) (fun H locs hQ zH fH hS => ?_)
  have hP := hQ
  have hV1 := hP
  have hk0 := gg_fr2 hP0 (fun q hz hq => fH q hz (bl_ne hq (by omega)))
  have hk1 := dz_fr2 hP1 (fun q hz hq => fH q hz (bl_ne hq (by omega)))
  refine lv_aload_n hx hb dX6_ifClosed_11 rfl (lv_at hl 0 rfl) ?_
  refine k_get S hK hk0 rfl (fun _ h => List.mem_cons_of_mem _ (List.mem_append_left _ (List.mem_append_left _ (List.mem_append_left _ (List.mem_append_left _ (List.mem_append_right _ (h))))))) 1 (by decide) (List.mem_cons_of_mem _ (List.mem_append_left _ (List.mem_append_left _ (List.mem_append_left _ (List.mem_append_left _ (List.mem_append_left _ (List.mem_append_left _ (List.mem_of_getElem? (i := 0) rfl)))))))) rfl (v := .ref (o + 60)) rfl dX6_ifClosed_12 ?_
  refine k_VM (As := []) (rest := []) S hK (c_X1_close l E (o + 60) z hI) gX6_ifClosed_X1_close rfl hd_X1_close ⟨rfl, rfl⟩ ⟨Nat.le_of_ble_eq_true rfl, Nat.le_of_ble_eq_true rfl⟩ (k_recv hK (dz_d hV1) rfl) hV1 rfl hl.1 rfl (Nat.le_of_ble_eq_true rfl) dX6_ifClosed_15 ⟨Nat.le_of_ble_eq_true rfl, Nat.le_of_ble_eq_true rfl⟩ hS (fun q h => h) (fun q h => h) (fun H locs hQ zH fH hS => ?_)
  have hP := hQ
  have hV2 := hP
  have hk0 := gg_fr2 hk0 (fun q hz hq => fH q hz (bl_ne hq (by omega)))
  have hk1 := dz_fr2 hk1 (fun q hz hq => fH q hz (bl_ne hq (by omega)))
  exact k_iretM hx hb hr hlk dX6_ifClosed_18 hS (tr_mk hV2) (rfl)
