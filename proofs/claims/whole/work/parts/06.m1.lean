def rm_X7_at : Room := { frames := 0, cells := 0, slots := 0, locals := 0 }
theorem hd_X7_at : k_hd1 yX7_at RX7 1 := by decide +kernel
set_option maxHeartbeats 4000000 in
set_option maxRecDepth 100000 in
theorem c_X7_at (l : Launch) (E : ke_E) (u : Nat) : Met l yX7_at wsX7_at rm_X7_at (kp E [.int (nI u)] (fun _ => True)) (qp (some (.int (nI (13*u + 62))))) 0 0 nof := by
  refine k_hd (cc := cX7_at) (maxL := 1) (ret := (some .int)) (by decide) rfl (Nat.le_of_ble_eq_true rfl) ?_
  intro p e s m below meth c ls S hr hlk hnm hK hP hl
  have hx := S.1
  have hb := S.2.1
  have hts := S.2.2.2.2
  have hl : lv_has ls 1 [(0, .int (nI u))] := hl
  refine lv_bipush (v := nI 62) hx hb dX7_at_0 (by decide) ?_
  refine lv_bipush (v := nI 13) hx hb dX7_at_2 (by decide) ?_
  refine lv_iload_n hx hb dX7_at_4 rfl (lv_at hl 0 rfl) ?_
  refine n_imul (n := 13*u) hx hb dX7_at_5 (by omega) ?_
  refine n_iadd (n := 13*u + 62) hx hb dX7_at_6 (by omega) ?_
  exact k_iret hx hb hr hlk dX7_at_7 (rfl)
def rm_X7_seller : Room := { frames := 0, cells := 0, slots := 0, locals := 0 }
theorem hd_X7_seller : k_hd1 yX7_seller RX7 1 := by decide +kernel
set_option maxHeartbeats 4000000 in
set_option maxRecDepth 100000 in
theorem c_X7_seller (l : Launch) (E : ke_E) (v : Nat) : Met l yX7_seller wsX7_seller rm_X7_seller (kp E [.int (nI v)] (fun _ => True)) (qp (some (.int (nI (8*v + 30))))) 0 0 nof := by
  refine k_hd (cc := cX7_seller) (maxL := 1) (ret := (some .int)) (by decide) rfl (Nat.le_of_ble_eq_true rfl) ?_
  intro p e s m below meth c ls S hr hlk hnm hK hP hl
  have hx := S.1
  have hb := S.2.1
  have hts := S.2.2.2.2
  have hl : lv_has ls 1 [(0, .int (nI v))] := hl
  refine lv_bipush (v := nI 30) hx hb dX7_seller_0 (by decide) ?_
  refine lv_bipush (v := nI 8) hx hb dX7_seller_2 (by decide) ?_
  refine lv_iload_n hx hb dX7_seller_4 rfl (lv_at hl 0 rfl) ?_
  refine n_imul (n := 8*v) hx hb dX7_seller_5 (by omega) ?_
  refine n_iadd (n := 8*v + 30) hx hb dX7_seller_6 (by omega) ?_
  exact k_iret hx hb hr hlk dX7_seller_7 (rfl)
def rm_X7_in : Room := { frames := 0, cells := 0, slots := 0, locals := 0 }
theorem hd_X7_in : k_hd1 yX7_in RX7 3 := by decide +kernel
set_option maxHeartbeats 4000000 in
set_option maxRecDepth 100000 in
theorem c_X7_in (l : Launch) (E : ke_E) (x : Int32) (lo : Int32) (hi : Int32) : Met l yX7_in wsX7_in rm_X7_in (kp E [.int x, .int lo, .int hi] (fun _ => True)) (qp (some (.int (bI (lo ≤ x ∧ x ≤ hi))))) 0 0 nof := by
  refine k_hd (cc := cX7_in) (maxL := 3) (ret := (some .boolean)) (by decide) rfl (Nat.le_of_ble_eq_true rfl) ?_
  intro p e s m below meth c ls S hr hlk hnm hK hP hl
  have hx := S.1
  have hb := S.2.1
  have hts := S.2.2.2.2
  have hl : lv_has ls 3 [(0, .int x), (1, .int lo), (2, .int hi)] := hl
  refine lv_iload_n hx hb dX7_in_0 rfl (lv_at hl 0 rfl) ?_
  refine lv_iload_n hx hb dX7_in_1 rfl (lv_at hl 1 rfl) ?_
  refine lv_icmp_lt (tgt := 14) hx hb dX7_in_2 (by decide) (fun c2 => ?_) (fun c2 => ?_)
  · refine lv_iconst (v := nI 0) hx hb dX7_in_14 (by decide) ?_
    exact k_bret hx hb hr hlk dX7_in_15 rfl (bI_f (fun h => by have := Int32.not_lt.mpr h.1; exact this c2))
  · refine lv_iload_n hx hb dX7_in_5 rfl (lv_at hl 0 rfl) ?_
    refine lv_iload_n hx hb dX7_in_6 rfl (lv_at hl 2 rfl) ?_
    refine lv_icmp_gt (tgt := 14) hx hb dX7_in_7 (by decide) (fun c7 => ?_) (fun c7 => ?_)
    · refine lv_iconst (v := nI 0) hx hb dX7_in_14 (by decide) ?_
      exact k_bret hx hb hr hlk dX7_in_15 rfl (bI_f (fun h => by have := Int32.not_lt.mpr h.2; exact this c7))
    · refine lv_iconst (v := nI 1) hx hb dX7_in_10 (by decide) ?_
      refine lv_goto (tgt := 15) hx hb dX7_in_11 (by decide) ?_
      exact k_bret hx hb hr hlk dX7_in_15 rfl (bI_t ⟨Int32.not_lt.mp c2, Int32.not_lt.mp c7⟩)
def rm_X7_isProduct : Room := { frames := 1, cells := 0, slots := 0, locals := 22 }
theorem hd_X7_isProduct : k_hd1 yX7_isProduct RX7 1 := by decide +kernel
set_option maxHeartbeats 4000000 in
set_option maxRecDepth 100000 in
theorem c_X7_isProduct (l : Launch) (E : ke_E) (x : Int32) : Met l yX7_isProduct wsX7_isProduct rm_X7_isProduct (kp E [.int x] (fun _ => True)) (qp (some (.int (bI (nI 0 ≤ x ∧ x ≤ nI 5))))) 0 0 nof := by
  refine k_hd (cc := cX7_isProduct) (maxL := 1) (ret := (some .boolean)) (by decide) rfl (Nat.le_of_ble_eq_true rfl) ?_
  intro p e s m below meth c ls S hr hlk hnm hK hP hl
  have hx := S.1
  have hb := S.2.1
  have hts := S.2.2.2.2
  have hl : lv_has ls 1 [(0, .int x)] := hl
  refine lv_iload_n hx hb dX7_isProduct_0 rfl (lv_at hl 0 rfl) ?_
  refine lv_iconst (v := nI 0) hx hb dX7_isProduct_1 (by decide) ?_
  refine lv_iconst (v := nI 5) hx hb dX7_isProduct_2 (by decide) ?_
  refine k_S (As := [.int x, .int (nI 0), .int (nI 5)]) (rest := []) S hK (c_X7_in l E x (nI 0) (nI 5)) gX7_isProduct_X7_in rfl hd_X7_in ⟨rfl, rfl⟩ ⟨Nat.le_of_ble_eq_true rfl, Nat.le_of_ble_eq_true rfl⟩ trivial rfl hl.1 rfl (Nat.le_of_ble_eq_true rfl) dX7_isProduct_3 ⟨Nat.le_of_ble_eq_true rfl, Nat.le_of_ble_eq_true rfl⟩ ?_
  exact k_bret hx hb hr hlk dX7_isProduct_6 (bI_nar _) (rfl)
def rm_X7_isVendor : Room := { frames := 1, cells := 0, slots := 0, locals := 22 }
theorem hd_X7_isVendor : k_hd1 yX7_isVendor RX7 1 := by decide +kernel
set_option maxHeartbeats 4000000 in
set_option maxRecDepth 100000 in
theorem c_X7_isVendor (l : Launch) (E : ke_E) (x : Int32) : Met l yX7_isVendor wsX7_isVendor rm_X7_isVendor (kp E [.int x] (fun _ => True)) (qp (some (.int (bI (nI 0 ≤ x ∧ x ≤ nI 3))))) 0 0 nof := by
  refine k_hd (cc := cX7_isVendor) (maxL := 1) (ret := (some .boolean)) (by decide) rfl (Nat.le_of_ble_eq_true rfl) ?_
  intro p e s m below meth c ls S hr hlk hnm hK hP hl
  have hx := S.1
  have hb := S.2.1
  have hts := S.2.2.2.2
  have hl : lv_has ls 1 [(0, .int x)] := hl
  refine lv_iload_n hx hb dX7_isVendor_0 rfl (lv_at hl 0 rfl) ?_
  refine lv_iconst (v := nI 0) hx hb dX7_isVendor_1 (by decide) ?_
  refine lv_iconst (v := nI 3) hx hb dX7_isVendor_2 (by decide) ?_
  refine k_S (As := [.int x, .int (nI 0), .int (nI 3)]) (rest := []) S hK (c_X7_in l E x (nI 0) (nI 3)) gX7_isVendor_X7_in rfl hd_X7_in ⟨rfl, rfl⟩ ⟨Nat.le_of_ble_eq_true rfl, Nat.le_of_ble_eq_true rfl⟩ trivial rfl hl.1 rfl (Nat.le_of_ble_eq_true rfl) dX7_isVendor_3 ⟨Nat.le_of_ble_eq_true rfl, Nat.le_of_ble_eq_true rfl⟩ ?_
  exact k_bret hx hb hr hlk dX7_isVendor_6 (bI_nar _) (rfl)
def rm_X7_isReason : Room := { frames := 1, cells := 0, slots := 0, locals := 22 }
theorem hd_X7_isReason : k_hd1 yX7_isReason RX7 1 := by decide +kernel
set_option maxHeartbeats 4000000 in
set_option maxRecDepth 100000 in
theorem c_X7_isReason (l : Launch) (E : ke_E) (x : Int32) : Met l yX7_isReason wsX7_isReason rm_X7_isReason (kp E [.int x] (fun _ => True)) (qp (some (.int (bI (nI 0 ≤ x ∧ x ≤ nI 3))))) 0 0 nof := by
  refine k_hd (cc := cX7_isReason) (maxL := 1) (ret := (some .boolean)) (by decide) rfl (Nat.le_of_ble_eq_true rfl) ?_
  intro p e s m below meth c ls S hr hlk hnm hK hP hl
  have hx := S.1
  have hb := S.2.1
  have hts := S.2.2.2.2
  have hl : lv_has ls 1 [(0, .int x)] := hl
  refine lv_iload_n hx hb dX7_isReason_0 rfl (lv_at hl 0 rfl) ?_
  refine lv_iconst (v := nI 0) hx hb dX7_isReason_1 (by decide) ?_
  refine lv_iconst (v := nI 3) hx hb dX7_isReason_2 (by decide) ?_
  refine k_S (As := [.int x, .int (nI 0), .int (nI 3)]) (rest := []) S hK (c_X7_in l E x (nI 0) (nI 3)) gX7_isReason_X7_in rfl hd_X7_in ⟨rfl, rfl⟩ ⟨Nat.le_of_ble_eq_true rfl, Nat.le_of_ble_eq_true rfl⟩ trivial rfl hl.1 rfl (Nat.le_of_ble_eq_true rfl) dX7_isReason_3 ⟨Nat.le_of_ble_eq_true rfl, Nat.le_of_ble_eq_true rfl⟩ ?_
  exact k_bret hx hb hr hlk dX7_isReason_6 (bI_nar _) (rfl)
def rm_X7_isUnit : Room := { frames := 1, cells := 0, slots := 0, locals := 22 }
theorem hd_X7_isUnit : k_hd1 yX7_isUnit RX7 1 := by decide +kernel
set_option maxHeartbeats 4000000 in
set_option maxRecDepth 100000 in
theorem c_X7_isUnit (l : Launch) (E : ke_E) (o : Nat) (z : Nat → Int32) (w : md_w) (x : Int32) (hI : iv z) : Met l yX7_isUnit wsX7_isUnit rm_X7_isUnit (kp E [.ref o, .int x] (md E o z w)) (qp (some (.int (bI (nI 0 ≤ x ∧ x ≤ nI (cn z) - nI 1))))) 0 0 nof := by
  refine k_hd (cc := cX7_isUnit) (maxL := 2) (ret := (some .boolean)) (by decide) rfl (Nat.le_of_ble_eq_true rfl) ?_
  intro p e s m below meth c ls S hr hlk hnm hK hP hl
  have hx := S.1
  have hb := S.2.1
  have hts := S.2.2.2.2
  have hP : md E o z w s.heap := hP
  have hl : lv_has ls 2 [(0, .ref o), (1, .int x)] := hl
  have hcn := iv_c hI
  refine lv_iload_n hx hb dX7_isUnit_0 rfl (lv_at hl 1 rfl) ?_
  refine lv_iconst (v := nI 0) hx hb dX7_isUnit_1 (by decide) ?_
  refine lv_aload_n hx hb dX7_isUnit_2 rfl (lv_at hl 0 rfl) ?_
  refine k_get S hK hP.1 rfl (fun _ h => List.mem_cons_of_mem _ (List.mem_append_right _ (h))) 0 (by decide) (List.mem_cons_of_mem _ (List.mem_append_left _ (List.mem_of_getElem? (i := 0) rfl))) rfl (v := .ref (o + 1)) rfl dX7_isUnit_3 ?_
  refine lv_iconst (v := nI 0) hx hb dX7_isUnit_6 (by decide) ?_
  refine k_iald hx hb hK hP.2.1 (by omega) (by decide) (v := nI (cn z)) (iv_n hI) dX7_isUnit_7 ?_
  refine lv_iconst (v := nI 1) hx hb dX7_isUnit_8 (by decide) ?_
  refine lv_isub hx hb dX7_isUnit_9 ?_
  refine k_S (As := [.int x, .int (nI 0), .int ((nI (cn z)) - (nI 1))]) (rest := []) S hK (c_X7_in l E x (nI 0) ((nI (cn z)) - (nI 1))) gX7_isUnit_X7_in rfl hd_X7_in ⟨rfl, rfl⟩ ⟨Nat.le_of_ble_eq_true rfl, Nat.le_of_ble_eq_true rfl⟩ trivial rfl hl.1 rfl (Nat.le_of_ble_eq_true rfl) dX7_isUnit_10 ⟨Nat.le_of_ble_eq_true rfl, Nat.le_of_ble_eq_true rfl⟩ ?_
  exact k_bret hx hb hr hlk dX7_isUnit_13 (bI_nar _) (rfl)
def rm_X7_thrown : Room := { frames := 0, cells := 0, slots := 0, locals := 0 }
theorem hd_X7_thrown : k_hd1 yX7_thrown RX7 0 := by decide +kernel
set_option maxHeartbeats 4000000 in
set_option maxRecDepth 100000 in
theorem c_X7_thrown (l : Launch) (E : ke_E) (o : Nat) (z : Nat → Int32) (w : md_w) : Met l yX7_thrown wsX7_thrown rm_X7_thrown (kp E [.ref o] (md E o z w)) (qp (some (.int (q_th w)))) 0 0 nof := by
  refine k_hd (cc := cX7_thrown) (maxL := 1) (ret := (some .int)) (by decide) rfl (Nat.le_of_ble_eq_true rfl) ?_
  intro p e s m below meth c ls S hr hlk hnm hK hP hl
  have hx := S.1
  have hb := S.2.1
  have hts := S.2.2.2.2
  have hP : md E o z w s.heap := hP
  have hl : lv_has ls 1 [(0, .ref o)] := hl
  refine lv_aload_n hx hb dX7_thrown_0 rfl (lv_at hl 0 rfl) ?_
  refine k_get S hK hP.1 rfl (fun _ h => List.mem_cons_of_mem _ (List.mem_append_right _ (h))) 6 (by decide) (List.mem_cons_of_mem _ (List.mem_append_left _ (List.mem_of_getElem? (i := 0) rfl))) rfl (v := .int (q_th w)) rfl dX7_thrown_1 ?_
  exact k_iret hx hb hr hlk dX7_thrown_4 (rfl)
def rm_X7_costOf : Room := { frames := 1, cells := 0, slots := 0, locals := 20 }
theorem hd_X7_costOf : k_hd1 yX7_costOf RX7 1 := by decide +kernel
set_option maxHeartbeats 4000000 in
set_option maxRecDepth 100000 in
theorem c_X7_costOf (l : Launch) (E : ke_E) (o : Nat) (z : Nat → Int32) (w : md_w) (u : Nat) (hI : iv z) (hu : u < cn z) : Met l yX7_costOf wsX7_costOf rm_X7_costOf (kp E [.ref o, .int (nI u)] (md E o z w)) (qp (some (.int (cst z u)))) 0 0 nof := by
  refine k_hd (cc := cX7_costOf) (maxL := 2) (ret := (some .int)) (by decide) rfl (Nat.le_of_ble_eq_true rfl) ?_
  intro p e s m below meth c ls S hr hlk hnm hK hP hl
  have hx := S.1
  have hb := S.2.1
  have hts := S.2.2.2.2
  have hP : md E o z w s.heap := hP
  have hl : lv_has ls 2 [(0, .ref o), (1, .int (nI u))] := hl
  have hcn := iv_c hI
  refine lv_aload_n hx hb dX7_costOf_0 rfl (lv_at hl 0 rfl) ?_
  refine k_get S hK hP.1 rfl (fun _ h => List.mem_cons_of_mem _ (List.mem_append_right _ (h))) 0 (by decide) (List.mem_cons_of_mem _ (List.mem_append_left _ (List.mem_of_getElem? (i := 0) rfl))) rfl (v := .ref (o + 1)) rfl dX7_costOf_1 ?_
  refine lv_bipush (v := nI 12) hx hb dX7_costOf_4 (by decide) ?_
  refine lv_iconst (v := nI 3) hx hb dX7_costOf_6 (by decide) ?_
  refine lv_aload_n hx hb dX7_costOf_7 rfl (lv_at hl 0 rfl) ?_
  refine k_get S hK hP.1 rfl (fun _ h => List.mem_cons_of_mem _ (List.mem_append_right _ (h))) 0 (by decide) (List.mem_cons_of_mem _ (List.mem_append_left _ (List.mem_of_getElem? (i := 0) rfl))) rfl (v := .ref (o + 1)) rfl dX7_costOf_8 ?_
  refine lv_iload_n hx hb dX7_costOf_11 rfl (lv_at hl 1 rfl) ?_
  refine k_S (As := [.int (nI u)]) (rest := [.ref (o + 1), .int (nI 3), .int (nI 12), .ref (o + 1)]) S hK (c_X7_at l E u) gX7_costOf_X7_at rfl hd_X7_at ⟨rfl, rfl⟩ ⟨Nat.le_of_ble_eq_true rfl, Nat.le_of_ble_eq_true rfl⟩ trivial rfl hl.1 rfl (Nat.le_of_ble_eq_true rfl) dX7_costOf_12 ⟨Nat.le_of_ble_eq_true rfl, Nat.le_of_ble_eq_true rfl⟩ ?_
  have hq1 := iv_upl hI hu
  refine k_iald hx hb hK hP.2.1 (by omega) (by decide) (v := nI (up z u)) (iv_up hI hu) dX7_costOf_15 ?_
  refine n_imul (n := 3*up z u) hx hb dX7_costOf_16 (by omega) ?_
  refine n_iadd (n := 3*up z u + 12) hx hb dX7_costOf_17 (by omega) ?_
  refine k_iald hx hb hK hP.2.1 (by omega) (by decide) (v := z (3*up z u + 12)) rfl dX7_costOf_18 ?_
  exact k_iret hx hb hr hlk dX7_costOf_19 (rfl)
def rm_X7_sellerOf : Room := { frames := 1, cells := 0, slots := 0, locals := 20 }
theorem hd_X7_sellerOf : k_hd1 yX7_sellerOf RX7 1 := by decide +kernel
set_option maxHeartbeats 4000000 in
set_option maxRecDepth 100000 in
theorem c_X7_sellerOf (l : Launch) (E : ke_E) (o : Nat) (z : Nat → Int32) (w : md_w) (u : Nat) (hI : iv z) (hu : u < cn z) : Met l yX7_sellerOf wsX7_sellerOf rm_X7_sellerOf (kp E [.ref o, .int (nI u)] (md E o z w)) (qp (some (.int (nI (pv z (up z u)))))) 0 0 nof := by
  refine k_hd (cc := cX7_sellerOf) (maxL := 2) (ret := (some .int)) (by decide) rfl (Nat.le_of_ble_eq_true rfl) ?_
  intro p e s m below meth c ls S hr hlk hnm hK hP hl
  have hx := S.1
  have hb := S.2.1
  have hts := S.2.2.2.2
  have hP : md E o z w s.heap := hP
  have hl : lv_has ls 2 [(0, .ref o), (1, .int (nI u))] := hl
  have hcn := iv_c hI
  refine lv_aload_n hx hb dX7_sellerOf_0 rfl (lv_at hl 0 rfl) ?_
  refine k_get S hK hP.1 rfl (fun _ h => List.mem_cons_of_mem _ (List.mem_append_right _ (h))) 0 (by decide) (List.mem_cons_of_mem _ (List.mem_append_left _ (List.mem_of_getElem? (i := 0) rfl))) rfl (v := .ref (o + 1)) rfl dX7_sellerOf_1 ?_
  refine lv_bipush (v := nI 12) hx hb dX7_sellerOf_4 (by decide) ?_
  refine lv_iconst (v := nI 3) hx hb dX7_sellerOf_6 (by decide) ?_
  refine lv_aload_n hx hb dX7_sellerOf_7 rfl (lv_at hl 0 rfl) ?_
  refine k_get S hK hP.1 rfl (fun _ h => List.mem_cons_of_mem _ (List.mem_append_right _ (h))) 0 (by decide) (List.mem_cons_of_mem _ (List.mem_append_left _ (List.mem_of_getElem? (i := 0) rfl))) rfl (v := .ref (o + 1)) rfl dX7_sellerOf_8 ?_
  refine lv_iload_n hx hb dX7_sellerOf_11 rfl (lv_at hl 1 rfl) ?_
  refine k_S (As := [.int (nI u)]) (rest := [.ref (o + 1), .int (nI 3), .int (nI 12), .ref (o + 1)]) S hK (c_X7_at l E u) gX7_sellerOf_X7_at rfl hd_X7_at ⟨rfl, rfl⟩ ⟨Nat.le_of_ble_eq_true rfl, Nat.le_of_ble_eq_true rfl⟩ trivial rfl hl.1 rfl (Nat.le_of_ble_eq_true rfl) dX7_sellerOf_12 ⟨Nat.le_of_ble_eq_true rfl, Nat.le_of_ble_eq_true rfl⟩ ?_
  have hq1 := iv_upl hI hu
  refine k_iald hx hb hK hP.2.1 (by omega) (by decide) (v := nI (up z u)) (iv_up hI hu) dX7_sellerOf_15 ?_
  refine n_imul (n := 3*up z u) hx hb dX7_sellerOf_16 (by omega) ?_
  refine n_iadd (n := 3*up z u + 12) hx hb dX7_sellerOf_17 (by omega) ?_
  refine lv_iconst (v := nI 1) hx hb dX7_sellerOf_18 (by decide) ?_
  refine n_iadd (n := 3*up z u + 13) hx hb dX7_sellerOf_19 (by omega) ?_
  have hq2 := iv_pvl hI hq1
  refine k_iald hx hb hK hP.2.1 (by omega) (by decide) (v := nI (pv z (up z u))) (iv_pv hI hq1) dX7_sellerOf_20 ?_
  exact k_iret hx hb hr hlk dX7_sellerOf_21 (rfl)
def rm_X7_isTested : Room := { frames := 1, cells := 0, slots := 0, locals := 20 }
theorem hd_X7_isTested : k_hd1 yX7_isTested RX7 1 := by decide +kernel
set_option maxHeartbeats 4000000 in
set_option maxRecDepth 100000 in
theorem c_X7_isTested (l : Launch) (E : ke_E) (o : Nat) (z : Nat → Int32) (w : md_w) (u : Nat) (hI : iv z) (hu : u < cn z) : Met l yX7_isTested wsX7_isTested rm_X7_isTested (kp E [.ref o, .int (nI u)] (md E o z w)) (qp (some (.int (bI (tst z u))))) 0 0 nof := by
  refine k_hd (cc := cX7_isTested) (maxL := 4) (ret := (some .boolean)) (by decide) rfl (Nat.le_of_ble_eq_true rfl) ?_
  intro p e s m below meth c ls S hr hlk hnm hK hP hl
  have hx := S.1
  have hb := S.2.1
  have hts := S.2.2.2.2
  have hP : md E o z w s.heap := hP
  have hl : lv_has ls 4 [(0, .ref o), (1, .int (nI u))] := hl
  have hcn := iv_c hI
  refine lv_iconst (v := nI 1) hx hb dX7_isTested_0 (by decide) ?_
  refine lv_istore_n (lv' := [(2, .int (nI 1)), (0, .ref o), (1, .int (nI u))]) hx hb dX7_isTested_1 rfl hl (by decide) rfl (fun ls hl => ?_)
  refine lv_iconst (v := nI 0) hx hb dX7_isTested_2 (by decide) ?_
  refine lv_istore_n (lv' := [(3, .int (nI 0)), (2, .int (nI 1)), (0, .ref o), (1, .int (nI u))]) hx hb dX7_isTested_3 rfl hl (by decide) rfl (fun ls hl => ?_)
  refine lv_iload_n hx hb dX7_isTested_4 rfl (lv_at hl 0 rfl) ?_
  refine lv_iconst (v := nI 4) hx hb dX7_isTested_5 (by decide) ?_
  refine n_ige (tgt := 41) hx hb dX7_isTested_6 (by decide) (by omega) (by omega) (fun h => absurd h (by decide)) (fun c6 => ?_)
  refine lv_iload_n hx hb dX7_isTested_9 rfl (lv_at hl 1 rfl) ?_
  refine lv_if_eq (tgt := 33) hx hb dX7_isTested_10 (by decide) (fun h => absurd h (by decide)) (fun c10 => ?_)
  refine lv_aload_n hx hb dX7_isTested_13 rfl (lv_at hl 2 rfl) ?_
  refine k_get S hK hP.1 rfl (fun _ h => List.mem_cons_of_mem _ (List.mem_append_right _ (h))) 0 (by decide) (List.mem_cons_of_mem _ (List.mem_append_left _ (List.mem_of_getElem? (i := 0) rfl))) rfl (v := .ref (o + 1)) rfl dX7_isTested_14 ?_
  refine lv_iload_n hx hb dX7_isTested_17 rfl (lv_at hl 3 rfl) ?_
  refine k_S (As := [.int (nI u)]) (rest := [.ref (o + 1)]) S hK (c_X7_at l E u) gX7_isTested_X7_at rfl hd_X7_at ⟨rfl, rfl⟩ ⟨Nat.le_of_ble_eq_true rfl, Nat.le_of_ble_eq_true rfl⟩ trivial rfl hl.1 rfl (Nat.le_of_ble_eq_true rfl) dX7_isTested_18 ⟨Nat.le_of_ble_eq_true rfl, Nat.le_of_ble_eq_true rfl⟩ ?_
  refine lv_iconst (v := nI 2) hx hb dX7_isTested_21 (by decide) ?_
  refine n_iadd (n := 13*u + 64) hx hb dX7_isTested_22 (by omega) ?_
  refine lv_iload_n hx hb dX7_isTested_23 rfl (lv_at hl 0 rfl) ?_
  refine n_iadd (n := 13*u + 64) hx hb dX7_isTested_24 (by omega) ?_
  refine k_iald hx hb hK hP.2.1 (by omega) (by decide) (v := z (13*u + 64)) rfl dX7_isTested_25 ?_
  refine lv_if_lt (tgt := 33) hx hb dX7_isTested_26 (by decide) (fun c26 => ?_) (fun c26 => ?_)
  · refine lv_iconst (v := nI 0) hx hb dX7_isTested_33 (by decide) ?_
    refine lv_istore_n (lv' := [(2, .int (nI 0)), (3, .int (nI 0)), (0, .ref o), (1, .int (nI u))]) hx hb dX7_isTested_34 rfl hl (by decide) rfl (fun ls hl => ?_)
    refine lv_iinc (v := nI 1) (lv' := [(3, .int (nI 1)), (2, .int (nI 0)), (0, .ref o), (1, .int (nI u))]) hx hb dX7_isTested_35 hl (k := 1) rfl (by decide) (by decide) rfl (fun ls hl => ?_)
    refine lv_goto (tgt := 4) hx hb dX7_isTested_38 (by decide) ?_
    refine lv_iload_n hx hb dX7_isTested_4 rfl (lv_at hl 0 rfl) ?_
    refine lv_iconst (v := nI 4) hx hb dX7_isTested_5 (by decide) ?_
    refine n_ige (tgt := 41) hx hb dX7_isTested_6 (by decide) (by omega) (by omega) (fun h => absurd h (by decide)) (fun c6_1 => ?_)
    refine lv_iload_n hx hb dX7_isTested_9 rfl (lv_at hl 1 rfl) ?_
    refine lv_if_eq (tgt := 33) hx hb dX7_isTested_10 (by decide) (fun c10_1 => ?_) (fun h => absurd h (by decide))
    refine lv_iconst (v := nI 0) hx hb dX7_isTested_33 (by decide) ?_
    refine lv_istore_n (lv' := [(2, .int (nI 0)), (3, .int (nI 1)), (0, .ref o), (1, .int (nI u))]) hx hb dX7_isTested_34 rfl hl (by decide) rfl (fun ls hl => ?_)
    refine lv_iinc (v := nI 2) (lv' := [(3, .int (nI 2)), (2, .int (nI 0)), (0, .ref o), (1, .int (nI u))]) hx hb dX7_isTested_35 hl (k := 1) rfl (by decide) (by decide) rfl (fun ls hl => ?_)
    refine lv_goto (tgt := 4) hx hb dX7_isTested_38 (by decide) ?_
    refine lv_iload_n hx hb dX7_isTested_4 rfl (lv_at hl 0 rfl) ?_
    refine lv_iconst (v := nI 4) hx hb dX7_isTested_5 (by decide) ?_
    refine n_ige (tgt := 41) hx hb dX7_isTested_6 (by decide) (by omega) (by omega) (fun h => absurd h (by decide)) (fun c6_2 => ?_)
    refine lv_iload_n hx hb dX7_isTested_9 rfl (lv_at hl 1 rfl) ?_
    refine lv_if_eq (tgt := 33) hx hb dX7_isTested_10 (by decide) (fun c10_2 => ?_) (fun h => absurd h (by decide))
    refine lv_iconst (v := nI 0) hx hb dX7_isTested_33 (by decide) ?_
    refine lv_istore_n (lv' := [(2, .int (nI 0)), (3, .int (nI 2)), (0, .ref o), (1, .int (nI u))]) hx hb dX7_isTested_34 rfl hl (by decide) rfl (fun ls hl => ?_)
    refine lv_iinc (v := nI 3) (lv' := [(3, .int (nI 3)), (2, .int (nI 0)), (0, .ref o), (1, .int (nI u))]) hx hb dX7_isTested_35 hl (k := 1) rfl (by decide) (by decide) rfl (fun ls hl => ?_)
    refine lv_goto (tgt := 4) hx hb dX7_isTested_38 (by decide) ?_
    refine lv_iload_n hx hb dX7_isTested_4 rfl (lv_at hl 0 rfl) ?_
    refine lv_iconst (v := nI 4) hx hb dX7_isTested_5 (by decide) ?_
    refine n_ige (tgt := 41) hx hb dX7_isTested_6 (by decide) (by omega) (by omega) (fun h => absurd h (by decide)) (fun c6_3 => ?_)
    refine lv_iload_n hx hb dX7_isTested_9 rfl (lv_at hl 1 rfl) ?_
    refine lv_if_eq (tgt := 33) hx hb dX7_isTested_10 (by decide) (fun c10_3 => ?_) (fun h => absurd h (by decide))
    refine lv_iconst (v := nI 0) hx hb dX7_isTested_33 (by decide) ?_
    refine lv_istore_n (lv' := [(2, .int (nI 0)), (3, .int (nI 3)), (0, .ref o), (1, .int (nI u))]) hx hb dX7_isTested_34 rfl hl (by decide) rfl (fun ls hl => ?_)
    refine lv_iinc (v := nI 4) (lv' := [(3, .int (nI 4)), (2, .int (nI 0)), (0, .ref o), (1, .int (nI u))]) hx hb dX7_isTested_35 hl (k := 1) rfl (by decide) (by decide) rfl (fun ls hl => ?_)
    refine lv_goto (tgt := 4) hx hb dX7_isTested_38 (by decide) ?_
    refine lv_iload_n hx hb dX7_isTested_4 rfl (lv_at hl 0 rfl) ?_
    refine lv_iconst (v := nI 4) hx hb dX7_isTested_5 (by decide) ?_
    refine n_ige (tgt := 41) hx hb dX7_isTested_6 (by decide) (by omega) (by omega) (fun c6_4 => ?_) (fun h => absurd h (by decide))
    refine lv_iload_n hx hb dX7_isTested_41 rfl (lv_at hl 1 rfl) ?_
    exact k_bret hx hb hr hlk dX7_isTested_42 rfl (bI_f (fun h => Int32.not_lt.mpr h.1 c26))
  · refine lv_iconst (v := nI 1) hx hb dX7_isTested_29 (by decide) ?_
    refine lv_goto (tgt := 34) hx hb dX7_isTested_30 (by decide) ?_
    refine lv_istore_n (lv' := [(2, .int (nI 1)), (3, .int (nI 0)), (0, .ref o), (1, .int (nI u))]) hx hb dX7_isTested_34 rfl hl (by decide) rfl (fun ls hl => ?_)
    refine lv_iinc (v := nI 1) (lv' := [(3, .int (nI 1)), (2, .int (nI 1)), (0, .ref o), (1, .int (nI u))]) hx hb dX7_isTested_35 hl (k := 1) rfl (by decide) (by decide) rfl (fun ls hl => ?_)
    refine lv_goto (tgt := 4) hx hb dX7_isTested_38 (by decide) ?_
    refine lv_iload_n hx hb dX7_isTested_4 rfl (lv_at hl 0 rfl) ?_
    refine lv_iconst (v := nI 4) hx hb dX7_isTested_5 (by decide) ?_
    refine n_ige (tgt := 41) hx hb dX7_isTested_6 (by decide) (by omega) (by omega) (fun h => absurd h (by decide)) (fun c6_1 => ?_)
    refine lv_iload_n hx hb dX7_isTested_9 rfl (lv_at hl 1 rfl) ?_
    refine lv_if_eq (tgt := 33) hx hb dX7_isTested_10 (by decide) (fun h => absurd h (by decide)) (fun c10_1 => ?_)
    refine lv_aload_n hx hb dX7_isTested_13 rfl (lv_at hl 2 rfl) ?_
    refine k_get S hK hP.1 rfl (fun _ h => List.mem_cons_of_mem _ (List.mem_append_right _ (h))) 0 (by decide) (List.mem_cons_of_mem _ (List.mem_append_left _ (List.mem_of_getElem? (i := 0) rfl))) rfl (v := .ref (o + 1)) rfl dX7_isTested_14 ?_
    refine lv_iload_n hx hb dX7_isTested_17 rfl (lv_at hl 3 rfl) ?_
    refine k_S (As := [.int (nI u)]) (rest := [.ref (o + 1)]) S hK (c_X7_at l E u) gX7_isTested_X7_at rfl hd_X7_at ⟨rfl, rfl⟩ ⟨Nat.le_of_ble_eq_true rfl, Nat.le_of_ble_eq_true rfl⟩ trivial rfl hl.1 rfl (Nat.le_of_ble_eq_true rfl) dX7_isTested_18 ⟨Nat.le_of_ble_eq_true rfl, Nat.le_of_ble_eq_true rfl⟩ ?_
    refine lv_iconst (v := nI 2) hx hb dX7_isTested_21 (by decide) ?_
    refine n_iadd (n := 13*u + 64) hx hb dX7_isTested_22 (by omega) ?_
    refine lv_iload_n hx hb dX7_isTested_23 rfl (lv_at hl 0 rfl) ?_
    refine n_iadd (n := 13*u + 65) hx hb dX7_isTested_24 (by omega) ?_
    refine k_iald hx hb hK hP.2.1 (by omega) (by decide) (v := z (13*u + 65)) rfl dX7_isTested_25 ?_
    refine lv_if_lt (tgt := 33) hx hb dX7_isTested_26 (by decide) (fun c26_1 => ?_) (fun c26_1 => ?_)
    · refine lv_iconst (v := nI 0) hx hb dX7_isTested_33 (by decide) ?_
      refine lv_istore_n (lv' := [(2, .int (nI 0)), (3, .int (nI 1)), (0, .ref o), (1, .int (nI u))]) hx hb dX7_isTested_34 rfl hl (by decide) rfl (fun ls hl => ?_)
      refine lv_iinc (v := nI 2) (lv' := [(3, .int (nI 2)), (2, .int (nI 0)), (0, .ref o), (1, .int (nI u))]) hx hb dX7_isTested_35 hl (k := 1) rfl (by decide) (by decide) rfl (fun ls hl => ?_)
      refine lv_goto (tgt := 4) hx hb dX7_isTested_38 (by decide) ?_
      refine lv_iload_n hx hb dX7_isTested_4 rfl (lv_at hl 0 rfl) ?_
      refine lv_iconst (v := nI 4) hx hb dX7_isTested_5 (by decide) ?_
      refine n_ige (tgt := 41) hx hb dX7_isTested_6 (by decide) (by omega) (by omega) (fun h => absurd h (by decide)) (fun c6_2 => ?_)
      refine lv_iload_n hx hb dX7_isTested_9 rfl (lv_at hl 1 rfl) ?_
      refine lv_if_eq (tgt := 33) hx hb dX7_isTested_10 (by decide) (fun c10_2 => ?_) (fun h => absurd h (by decide))
      refine lv_iconst (v := nI 0) hx hb dX7_isTested_33 (by decide) ?_
      refine lv_istore_n (lv' := [(2, .int (nI 0)), (3, .int (nI 2)), (0, .ref o), (1, .int (nI u))]) hx hb dX7_isTested_34 rfl hl (by decide) rfl (fun ls hl => ?_)
      refine lv_iinc (v := nI 3) (lv' := [(3, .int (nI 3)), (2, .int (nI 0)), (0, .ref o), (1, .int (nI u))]) hx hb dX7_isTested_35 hl (k := 1) rfl (by decide) (by decide) rfl (fun ls hl => ?_)
      refine lv_goto (tgt := 4) hx hb dX7_isTested_38 (by decide) ?_
      refine lv_iload_n hx hb dX7_isTested_4 rfl (lv_at hl 0 rfl) ?_
      refine lv_iconst (v := nI 4) hx hb dX7_isTested_5 (by decide) ?_
      refine n_ige (tgt := 41) hx hb dX7_isTested_6 (by decide) (by omega) (by omega) (fun h => absurd h (by decide)) (fun c6_3 => ?_)
      refine lv_iload_n hx hb dX7_isTested_9 rfl (lv_at hl 1 rfl) ?_
      refine lv_if_eq (tgt := 33) hx hb dX7_isTested_10 (by decide) (fun c10_3 => ?_) (fun h => absurd h (by decide))
      refine lv_iconst (v := nI 0) hx hb dX7_isTested_33 (by decide) ?_
      refine lv_istore_n (lv' := [(2, .int (nI 0)), (3, .int (nI 3)), (0, .ref o), (1, .int (nI u))]) hx hb dX7_isTested_34 rfl hl (by decide) rfl (fun ls hl => ?_)
      refine lv_iinc (v := nI 4) (lv' := [(3, .int (nI 4)), (2, .int (nI 0)), (0, .ref o), (1, .int (nI u))]) hx hb dX7_isTested_35 hl (k := 1) rfl (by decide) (by decide) rfl (fun ls hl => ?_)
      refine lv_goto (tgt := 4) hx hb dX7_isTested_38 (by decide) ?_
      refine lv_iload_n hx hb dX7_isTested_4 rfl (lv_at hl 0 rfl) ?_
      refine lv_iconst (v := nI 4) hx hb dX7_isTested_5 (by decide) ?_
      refine n_ige (tgt := 41) hx hb dX7_isTested_6 (by decide) (by omega) (by omega) (fun c6_4 => ?_) (fun h => absurd h (by decide))
      refine lv_iload_n hx hb dX7_isTested_41 rfl (lv_at hl 1 rfl) ?_
      exact k_bret hx hb hr hlk dX7_isTested_42 rfl (bI_f (fun h => Int32.not_lt.mpr h.2.1 c26_1))
    · refine lv_iconst (v := nI 1) hx hb dX7_isTested_29 (by decide) ?_
      refine lv_goto (tgt := 34) hx hb dX7_isTested_30 (by decide) ?_
      refine lv_istore_n (lv' := [(2, .int (nI 1)), (3, .int (nI 1)), (0, .ref o), (1, .int (nI u))]) hx hb dX7_isTested_34 rfl hl (by decide) rfl (fun ls hl => ?_)
      refine lv_iinc (v := nI 2) (lv' := [(3, .int (nI 2)), (2, .int (nI 1)), (0, .ref o), (1, .int (nI u))]) hx hb dX7_isTested_35 hl (k := 1) rfl (by decide) (by decide) rfl (fun ls hl => ?_)
      refine lv_goto (tgt := 4) hx hb dX7_isTested_38 (by decide) ?_
      refine lv_iload_n hx hb dX7_isTested_4 rfl (lv_at hl 0 rfl) ?_
      refine lv_iconst (v := nI 4) hx hb dX7_isTested_5 (by decide) ?_
      refine n_ige (tgt := 41) hx hb dX7_isTested_6 (by decide) (by omega) (by omega) (fun h => absurd h (by decide)) (fun c6_2 => ?_)
      refine lv_iload_n hx hb dX7_isTested_9 rfl (lv_at hl 1 rfl) ?_
      refine lv_if_eq (tgt := 33) hx hb dX7_isTested_10 (by decide) (fun h => absurd h (by decide)) (fun c10_2 => ?_)
      refine lv_aload_n hx hb dX7_isTested_13 rfl (lv_at hl 2 rfl) ?_
      refine k_get S hK hP.1 rfl (fun _ h => List.mem_cons_of_mem _ (List.mem_append_right _ (h))) 0 (by decide) (List.mem_cons_of_mem _ (List.mem_append_left _ (List.mem_of_getElem? (i := 0) rfl))) rfl (v := .ref (o + 1)) rfl dX7_isTested_14 ?_
      refine lv_iload_n hx hb dX7_isTested_17 rfl (lv_at hl 3 rfl) ?_
      refine k_S (As := [.int (nI u)]) (rest := [.ref (o + 1)]) S hK (c_X7_at l E u) gX7_isTested_X7_at rfl hd_X7_at ⟨rfl, rfl⟩ ⟨Nat.le_of_ble_eq_true rfl, Nat.le_of_ble_eq_true rfl⟩ trivial rfl hl.1 rfl (Nat.le_of_ble_eq_true rfl) dX7_isTested_18 ⟨Nat.le_of_ble_eq_true rfl, Nat.le_of_ble_eq_true rfl⟩ ?_
      refine lv_iconst (v := nI 2) hx hb dX7_isTested_21 (by decide) ?_
      refine n_iadd (n := 13*u + 64) hx hb dX7_isTested_22 (by omega) ?_
      refine lv_iload_n hx hb dX7_isTested_23 rfl (lv_at hl 0 rfl) ?_
      refine n_iadd (n := 13*u + 66) hx hb dX7_isTested_24 (by omega) ?_
      refine k_iald hx hb hK hP.2.1 (by omega) (by decide) (v := z (13*u + 66)) rfl dX7_isTested_25 ?_
      refine lv_if_lt (tgt := 33) hx hb dX7_isTested_26 (by decide) (fun c26_2 => ?_) (fun c26_2 => ?_)
      · refine lv_iconst (v := nI 0) hx hb dX7_isTested_33 (by decide) ?_
        refine lv_istore_n (lv' := [(2, .int (nI 0)), (3, .int (nI 2)), (0, .ref o), (1, .int (nI u))]) hx hb dX7_isTested_34 rfl hl (by decide) rfl (fun ls hl => ?_)
        refine lv_iinc (v := nI 3) (lv' := [(3, .int (nI 3)), (2, .int (nI 0)), (0, .ref o), (1, .int (nI u))]) hx hb dX7_isTested_35 hl (k := 1) rfl (by decide) (by decide) rfl (fun ls hl => ?_)
        refine lv_goto (tgt := 4) hx hb dX7_isTested_38 (by decide) ?_
        refine lv_iload_n hx hb dX7_isTested_4 rfl (lv_at hl 0 rfl) ?_
        refine lv_iconst (v := nI 4) hx hb dX7_isTested_5 (by decide) ?_
        refine n_ige (tgt := 41) hx hb dX7_isTested_6 (by decide) (by omega) (by omega) (fun h => absurd h (by decide)) (fun c6_3 => ?_)
        refine lv_iload_n hx hb dX7_isTested_9 rfl (lv_at hl 1 rfl) ?_
        refine lv_if_eq (tgt := 33) hx hb dX7_isTested_10 (by decide) (fun c10_3 => ?_) (fun h => absurd h (by decide))
        refine lv_iconst (v := nI 0) hx hb dX7_isTested_33 (by decide) ?_
        refine lv_istore_n (lv' := [(2, .int (nI 0)), (3, .int (nI 3)), (0, .ref o), (1, .int (nI u))]) hx hb dX7_isTested_34 rfl hl (by decide) rfl (fun ls hl => ?_)
        refine lv_iinc (v := nI 4) (lv' := [(3, .int (nI 4)), (2, .int (nI 0)), (0, .ref o), (1, .int (nI u))]) hx hb dX7_isTested_35 hl (k := 1) rfl (by decide) (by decide) rfl (fun ls hl => ?_)
        refine lv_goto (tgt := 4) hx hb dX7_isTested_38 (by decide) ?_
        refine lv_iload_n hx hb dX7_isTested_4 rfl (lv_at hl 0 rfl) ?_
        refine lv_iconst (v := nI 4) hx hb dX7_isTested_5 (by decide) ?_
        refine n_ige (tgt := 41) hx hb dX7_isTested_6 (by decide) (by omega) (by omega) (fun c6_4 => ?_) (fun h => absurd h (by decide))
        refine lv_iload_n hx hb dX7_isTested_41 rfl (lv_at hl 1 rfl) ?_
        exact k_bret hx hb hr hlk dX7_isTested_42 rfl (bI_f (fun h => Int32.not_lt.mpr h.2.2.1 c26_2))
      · refine lv_iconst (v := nI 1) hx hb dX7_isTested_29 (by decide) ?_
        refine lv_goto (tgt := 34) hx hb dX7_isTested_30 (by decide) ?_
        refine lv_istore_n (lv' := [(2, .int (nI 1)), (3, .int (nI 2)), (0, .ref o), (1, .int (nI u))]) hx hb dX7_isTested_34 rfl hl (by decide) rfl (fun ls hl => ?_)
        refine lv_iinc (v := nI 3) (lv' := [(3, .int (nI 3)), (2, .int (nI 1)), (0, .ref o), (1, .int (nI u))]) hx hb dX7_isTested_35 hl (k := 1) rfl (by decide) (by decide) rfl (fun ls hl => ?_)
        refine lv_goto (tgt := 4) hx hb dX7_isTested_38 (by decide) ?_
        refine lv_iload_n hx hb dX7_isTested_4 rfl (lv_at hl 0 rfl) ?_
        refine lv_iconst (v := nI 4) hx hb dX7_isTested_5 (by decide) ?_
        refine n_ige (tgt := 41) hx hb dX7_isTested_6 (by decide) (by omega) (by omega) (fun h => absurd h (by decide)) (fun c6_3 => ?_)
        refine lv_iload_n hx hb dX7_isTested_9 rfl (lv_at hl 1 rfl) ?_
        refine lv_if_eq (tgt := 33) hx hb dX7_isTested_10 (by decide) (fun h => absurd h (by decide)) (fun c10_3 => ?_)
        refine lv_aload_n hx hb dX7_isTested_13 rfl (lv_at hl 2 rfl) ?_
        refine k_get S hK hP.1 rfl (fun _ h => List.mem_cons_of_mem _ (List.mem_append_right _ (h))) 0 (by decide) (List.mem_cons_of_mem _ (List.mem_append_left _ (List.mem_of_getElem? (i := 0) rfl))) rfl (v := .ref (o + 1)) rfl dX7_isTested_14 ?_
        refine lv_iload_n hx hb dX7_isTested_17 rfl (lv_at hl 3 rfl) ?_
        refine k_S (As := [.int (nI u)]) (rest := [.ref (o + 1)]) S hK (c_X7_at l E u) gX7_isTested_X7_at rfl hd_X7_at ⟨rfl, rfl⟩ ⟨Nat.le_of_ble_eq_true rfl, Nat.le_of_ble_eq_true rfl⟩ trivial rfl hl.1 rfl (Nat.le_of_ble_eq_true rfl) dX7_isTested_18 ⟨Nat.le_of_ble_eq_true rfl, Nat.le_of_ble_eq_true rfl⟩ ?_
        refine lv_iconst (v := nI 2) hx hb dX7_isTested_21 (by decide) ?_
        refine n_iadd (n := 13*u + 64) hx hb dX7_isTested_22 (by omega) ?_
        refine lv_iload_n hx hb dX7_isTested_23 rfl (lv_at hl 0 rfl) ?_
        refine n_iadd (n := 13*u + 67) hx hb dX7_isTested_24 (by omega) ?_
        refine k_iald hx hb hK hP.2.1 (by omega) (by decide) (v := z (13*u + 67)) rfl dX7_isTested_25 ?_
        refine lv_if_lt (tgt := 33) hx hb dX7_isTested_26 (by decide) (fun c26_3 => ?_) (fun c26_3 => ?_)
        · refine lv_iconst (v := nI 0) hx hb dX7_isTested_33 (by decide) ?_
          refine lv_istore_n (lv' := [(2, .int (nI 0)), (3, .int (nI 3)), (0, .ref o), (1, .int (nI u))]) hx hb dX7_isTested_34 rfl hl (by decide) rfl (fun ls hl => ?_)
          refine lv_iinc (v := nI 4) (lv' := [(3, .int (nI 4)), (2, .int (nI 0)), (0, .ref o), (1, .int (nI u))]) hx hb dX7_isTested_35 hl (k := 1) rfl (by decide) (by decide) rfl (fun ls hl => ?_)
          refine lv_goto (tgt := 4) hx hb dX7_isTested_38 (by decide) ?_
          refine lv_iload_n hx hb dX7_isTested_4 rfl (lv_at hl 0 rfl) ?_
          refine lv_iconst (v := nI 4) hx hb dX7_isTested_5 (by decide) ?_
          refine n_ige (tgt := 41) hx hb dX7_isTested_6 (by decide) (by omega) (by omega) (fun c6_4 => ?_) (fun h => absurd h (by decide))
          refine lv_iload_n hx hb dX7_isTested_41 rfl (lv_at hl 1 rfl) ?_
          exact k_bret hx hb hr hlk dX7_isTested_42 rfl (bI_f (fun h => Int32.not_lt.mpr h.2.2.2 c26_3))
        · refine lv_iconst (v := nI 1) hx hb dX7_isTested_29 (by decide) ?_
          refine lv_goto (tgt := 34) hx hb dX7_isTested_30 (by decide) ?_
          refine lv_istore_n (lv' := [(2, .int (nI 1)), (3, .int (nI 3)), (0, .ref o), (1, .int (nI u))]) hx hb dX7_isTested_34 rfl hl (by decide) rfl (fun ls hl => ?_)
          refine lv_iinc (v := nI 4) (lv' := [(3, .int (nI 4)), (2, .int (nI 1)), (0, .ref o), (1, .int (nI u))]) hx hb dX7_isTested_35 hl (k := 1) rfl (by decide) (by decide) rfl (fun ls hl => ?_)
          refine lv_goto (tgt := 4) hx hb dX7_isTested_38 (by decide) ?_
          refine lv_iload_n hx hb dX7_isTested_4 rfl (lv_at hl 0 rfl) ?_
          refine lv_iconst (v := nI 4) hx hb dX7_isTested_5 (by decide) ?_
          refine n_ige (tgt := 41) hx hb dX7_isTested_6 (by decide) (by omega) (by omega) (fun c6_4 => ?_) (fun h => absurd h (by decide))
          refine lv_iload_n hx hb dX7_isTested_41 rfl (lv_at hl 1 rfl) ?_
          exact k_bret hx hb hr hlk dX7_isTested_42 rfl (bI_t ⟨Int32.not_lt.mp c26, Int32.not_lt.mp c26_1, Int32.not_lt.mp c26_2, Int32.not_lt.mp c26_3⟩)
def rm_X7_isHeld : Room := { frames := 1, cells := 0, slots := 0, locals := 20 }
theorem hd_X7_isHeld : k_hd1 yX7_isHeld RX7 1 := by decide +kernel
set_option maxHeartbeats 4000000 in
set_option maxRecDepth 100000 in
theorem c_X7_isHeld (l : Launch) (E : ke_E) (o : Nat) (z : Nat → Int32) (w : md_w) (u : Nat) (hI : iv z) (hu : u < cn z) : Met l yX7_isHeld wsX7_isHeld rm_X7_isHeld (kp E [.ref o, .int (nI u)] (md E o z w)) (qp (some (.int (bI (hld z u))))) 0 0 nof := by
  refine k_hd (cc := cX7_isHeld) (maxL := 2) (ret := (some .boolean)) (by decide) rfl (Nat.le_of_ble_eq_true rfl) ?_
  intro p e s m below meth c ls S hr hlk hnm hK hP hl
  have hx := S.1
  have hb := S.2.1
  have hts := S.2.2.2.2
  have hP : md E o z w s.heap := hP
  have hl : lv_has ls 2 [(0, .ref o), (1, .int (nI u))] := hl
  have hcn := iv_c hI
  refine lv_aload_n hx hb dX7_isHeld_0 rfl (lv_at hl 0 rfl) ?_
  refine k_get S hK hP.1 rfl (fun _ h => List.mem_cons_of_mem _ (List.mem_append_right _ (h))) 0 (by decide) (List.mem_cons_of_mem _ (List.mem_append_left _ (List.mem_of_getElem? (i := 0) rfl))) rfl (v := .ref (o + 1)) rfl dX7_isHeld_1 ?_
  refine lv_iload_n hx hb dX7_isHeld_4 rfl (lv_at hl 1 rfl) ?_
  refine k_S (As := [.int (nI u)]) (rest := [.ref (o + 1)]) S hK (c_X7_at l E u) gX7_isHeld_X7_at rfl hd_X7_at ⟨rfl, rfl⟩ ⟨Nat.le_of_ble_eq_true rfl, Nat.le_of_ble_eq_true rfl⟩ trivial rfl hl.1 rfl (Nat.le_of_ble_eq_true rfl) dX7_isHeld_5 ⟨Nat.le_of_ble_eq_true rfl, Nat.le_of_ble_eq_true rfl⟩ ?_
  refine lv_bipush (v := nI 6) hx hb dX7_isHeld_8 (by decide) ?_
  refine n_iadd (n := 13*u + 68) hx hb dX7_isHeld_10 (by omega) ?_
  refine k_iald hx hb hK hP.2.1 (by omega) (by decide) (v := z (13*u + 68)) rfl dX7_isHeld_11 ?_
  refine lv_iconst (v := nI 2) hx hb dX7_isHeld_12 (by decide) ?_
  refine lv_icmp_ge (tgt := 45) hx hb dX7_isHeld_13 (by decide) (fun c13 => ?_) (fun c13 => ?_)
  · refine lv_iconst (v := nI 0) hx hb dX7_isHeld_45 (by decide) ?_
    exact k_bret hx hb hr hlk dX7_isHeld_46 rfl (bI_f (fun h => Int32.not_lt.mpr c13 h.1))
  · refine lv_aload_n hx hb dX7_isHeld_16 rfl (lv_at hl 0 rfl) ?_
    refine k_get S hK hP.1 rfl (fun _ h => List.mem_cons_of_mem _ (List.mem_append_right _ (h))) 0 (by decide) (List.mem_cons_of_mem _ (List.mem_append_left _ (List.mem_of_getElem? (i := 0) rfl))) rfl (v := .ref (o + 1)) rfl dX7_isHeld_17 ?_
    refine lv_bipush (v := nI 12) hx hb dX7_isHeld_20 (by decide) ?_
    refine lv_iconst (v := nI 3) hx hb dX7_isHeld_22 (by decide) ?_
    refine lv_aload_n hx hb dX7_isHeld_23 rfl (lv_at hl 0 rfl) ?_
    refine k_get S hK hP.1 rfl (fun _ h => List.mem_cons_of_mem _ (List.mem_append_right _ (h))) 0 (by decide) (List.mem_cons_of_mem _ (List.mem_append_left _ (List.mem_of_getElem? (i := 0) rfl))) rfl (v := .ref (o + 1)) rfl dX7_isHeld_24 ?_
    refine lv_iload_n hx hb dX7_isHeld_27 rfl (lv_at hl 1 rfl) ?_
    refine k_S (As := [.int (nI u)]) (rest := [.ref (o + 1), .int (nI 3), .int (nI 12), .ref (o + 1)]) S hK (c_X7_at l E u) gX7_isHeld_X7_at rfl hd_X7_at ⟨rfl, rfl⟩ ⟨Nat.le_of_ble_eq_true rfl, Nat.le_of_ble_eq_true rfl⟩ trivial rfl hl.1 rfl (Nat.le_of_ble_eq_true rfl) dX7_isHeld_28 ⟨Nat.le_of_ble_eq_true rfl, Nat.le_of_ble_eq_true rfl⟩ ?_
    have hq1 := iv_upl hI hu
    refine k_iald hx hb hK hP.2.1 (by omega) (by decide) (v := nI (up z u)) (iv_up hI hu) dX7_isHeld_31 ?_
    refine n_imul (n := 3*up z u) hx hb dX7_isHeld_32 (by omega) ?_
    refine n_iadd (n := 3*up z u + 12) hx hb dX7_isHeld_33 (by omega) ?_
    refine lv_iconst (v := nI 2) hx hb dX7_isHeld_34 (by decide) ?_
    refine n_iadd (n := 3*up z u + 14) hx hb dX7_isHeld_35 (by omega) ?_
    refine k_iald hx hb hK hP.2.1 (by omega) (by decide) (v := z (3*up z u + 14)) rfl dX7_isHeld_36 ?_
    refine lv_iconst (v := nI 1) hx hb dX7_isHeld_37 (by decide) ?_
    refine lv_icmp_ne (tgt := 45) hx hb dX7_isHeld_38 (by decide) (fun c38 => ?_) (fun c38 => ?_)
    · refine lv_iconst (v := nI 0) hx hb dX7_isHeld_45 (by decide) ?_
      exact k_bret hx hb hr hlk dX7_isHeld_46 rfl (bI_f (fun h => c38 h.2))
    · refine lv_iconst (v := nI 1) hx hb dX7_isHeld_41 (by decide) ?_
      refine lv_goto (tgt := 46) hx hb dX7_isHeld_42 (by decide) ?_
      exact k_bret hx hb hr hlk dX7_isHeld_46 rfl (bI_t ⟨Int32.not_le.mp c13, c38⟩)
def rm_X7_score : Room := { frames := 1, cells := 0, slots := 0, locals := 20 }
theorem hd_X7_score : k_hd1 yX7_score RX7 3 := by decide +kernel
set_option maxHeartbeats 4000000 in
set_option maxRecDepth 100000 in
theorem c_X7_score (l : Launch) (E : ke_E) (o : Nat) (z : Nat → Int32) (w : md_w) (u : Nat) (t : Nat) (k : Int32) (hI : iv z) (hu : u < cn z) (ht : t < 4) : Met l yX7_score wsX7_score rm_X7_score (kp E [.ref o, .int (nI u), .int (nI t), .int k] (md E o z w)) (qp (some (.int (scr z u t k)))) 0 0 nof := by
  refine k_hd (cc := cX7_score) (maxL := 5) (ret := (some .int)) (by decide) rfl (Nat.le_of_ble_eq_true rfl) ?_
  intro p e s m below meth c ls S hr hlk hnm hK hP hl
  have hx := S.1
  have hb := S.2.1
  have hts := S.2.2.2.2
  have hP : md E o z w s.heap := hP
  have hl : lv_has ls 5 [(0, .ref o), (1, .int (nI u)), (2, .int (nI t)), (3, .int k)] := hl
  have hcn := iv_c hI
  refine lv_aload_n hx hb dX7_score_0 rfl (lv_at hl 0 rfl) ?_
  refine k_get S hK hP.1 rfl (fun _ h => List.mem_cons_of_mem _ (List.mem_append_right _ (h))) 0 (by decide) (List.mem_cons_of_mem _ (List.mem_append_left _ (List.mem_of_getElem? (i := 0) rfl))) rfl (v := .ref (o + 1)) rfl dX7_score_1 ?_
  refine lv_iload_n hx hb dX7_score_4 rfl (lv_at hl 1 rfl) ?_
  refine k_S (As := [.int (nI u)]) (rest := [.ref (o + 1)]) S hK (c_X7_at l E u) gX7_score_X7_at rfl hd_X7_at ⟨rfl, rfl⟩ ⟨Nat.le_of_ble_eq_true rfl, Nat.le_of_ble_eq_true rfl⟩ trivial rfl hl.1 rfl (Nat.le_of_ble_eq_true rfl) dX7_score_5 ⟨Nat.le_of_ble_eq_true rfl, Nat.le_of_ble_eq_true rfl⟩ ?_
  refine lv_iconst (v := nI 2) hx hb dX7_score_8 (by decide) ?_
  refine n_iadd (n := 13*u + 64) hx hb dX7_score_9 (by omega) ?_
  refine lv_iload_n hx hb dX7_score_10 rfl (lv_at hl 2 rfl) ?_
  refine n_iadd (n := 13*u + t + 64) hx hb dX7_score_11 (by omega) ?_
  refine k_iald hx hb hK hP.2.1 (by omega) (by decide) (v := z (13*u + t + 64)) rfl dX7_score_12 ?_
  refine lv_istore (lv' := [(4, .int (z (13*u + t + 64))), (0, .ref o), (1, .int (nI u)), (2, .int (nI t)), (3, .int k)]) hx hb dX7_score_13 hl (by decide) rfl (fun ls hl => ?_)
  refine lv_iload_n hx hb dX7_score_15 rfl (lv_at hl 4 rfl) ?_
  refine lv_if_eq (tgt := 31) hx hb dX7_score_16 (by decide) (fun c16 => ?_) (fun c16 => ?_)
  · refine lv_iload hx hb dX7_score_31 (lv_at hl 0 rfl) ?_
    exact k_iret hx hb hr hlk dX7_score_33 (iF_f (fun h => h.1 c16))
  · refine lv_iload hx hb dX7_score_19 (lv_at hl 0 rfl) ?_
    refine lv_bipush (v := nI 7) hx hb dX7_score_21 (by decide) ?_
    refine lv_icmp_ge (tgt := 31) hx hb dX7_score_23 (by decide) (fun c23 => ?_) (fun c23 => ?_)
    · refine lv_iload hx hb dX7_score_31 (lv_at hl 0 rfl) ?_
      exact k_iret hx hb hr hlk dX7_score_33 (iF_f (fun h => Int32.not_lt.mpr c23 h.2))
    · refine lv_bipush (v := nI 7) hx hb dX7_score_26 (by decide) ?_
      refine lv_goto (tgt := 33) hx hb dX7_score_28 (by decide) ?_
      exact k_iret hx hb hr hlk dX7_score_33 (iF_t ⟨c16, Int32.not_le.mp c23⟩)
def rm_X7_gradeOf : Room := { frames := 2, cells := 0, slots := 0, locals := 44 }
theorem hd_X7_gradeOf : k_hd1 yX7_gradeOf RX7 2 := by decide +kernel
set_option maxHeartbeats 4000000 in
set_option maxRecDepth 100000 in
theorem c_X7_gradeOf (l : Launch) (E : ke_E) (o : Nat) (z : Nat → Int32) (w : md_w) (u : Nat) (k : Int32) (hI : iv z) (hu : u < cn z) : Met l yX7_gradeOf wsX7_gradeOf rm_X7_gradeOf (kp E [.ref o, .int (nI u), .int k] (md E o z w)) (qp (some (.int (gr z u k)))) 0 0 nof := by
  refine k_hd (cc := cX7_gradeOf) (maxL := 6) (ret := (some .int)) (by decide) rfl (Nat.le_of_ble_eq_true rfl) ?_
  intro p e s m below meth c ls S hr hlk hnm hK hP hl
  have hx := S.1
  have hb := S.2.1
  have hts := S.2.2.2.2
  have hP : md E o z w s.heap := hP
  have hl : lv_has ls 6 [(0, .ref o), (1, .int (nI u)), (2, .int k)] := hl
  have hcn := iv_c hI
  have J100 : ∀ (ls : Array Slot), lv_has ls 6 [(0, .ref o), (1, .int (nI u)), (2, .int k), (3, .int (smm z u k)), (4, .int (bI (zer z u k)))] → W p l e (headSpec wsX7_gradeOf rm_X7_gradeOf).room s m ([.ref o, .int (nI u), .int k] : List Value).toArray below meth c s.heap [] 0 0 (MQ below (qp (some (.int (gr z u k)))) ([.ref o, .int (nI u), .int k] : List Value).toArray s 0 0 nof) (F0 m 100 ls [.int (gsm z (smm z u k))]) := by
    intro ls hl
    refine lv_istore (lv' := [(5, .int (gsm z (smm z u k))), (0, .ref o), (1, .int (nI u)), (2, .int k), (3, .int (smm z u k)), (4, .int (bI (zer z u k)))]) hx hb dX7_gradeOf_100 hl (by decide) rfl (fun ls hl => ?_)
    refine lv_iload hx hb dX7_gradeOf_102 (lv_at hl 5 rfl) ?_
    refine b_eq (tgt := 117) hx hb dX7_gradeOf_104 (by decide) (fun c104 => ?_) (fun c104 => ?_)
    · refine lv_iload hx hb dX7_gradeOf_117 (lv_at hl 0 rfl) ?_
      exact k_iret hx hb hr hlk dX7_gradeOf_119 (iF_f (fun h => c104 h.1))
    · refine lv_iload hx hb dX7_gradeOf_107 (lv_at hl 0 rfl) ?_
      refine lv_iconst (v := nI 2) hx hb dX7_gradeOf_109 (by decide) ?_
      refine lv_icmp_ge (tgt := 117) hx hb dX7_gradeOf_110 (by decide) (fun c110 => ?_) (fun c110 => ?_)
      · refine lv_iload hx hb dX7_gradeOf_117 (lv_at hl 0 rfl) ?_
        exact k_iret hx hb hr hlk dX7_gradeOf_119 (iF_f (fun h => h.2 c110))
      · refine lv_iconst (v := nI 2) hx hb dX7_gradeOf_113 (by decide) ?_
        refine lv_goto (tgt := 119) hx hb dX7_gradeOf_114 (by decide) ?_
        exact k_iret hx hb hr hlk dX7_gradeOf_119 (iF_t ⟨c104, c110⟩)
  have J54 : ∀ (ls : Array Slot), lv_has ls 6 [(0, .ref o), (1, .int (nI u)), (2, .int k), (3, .int (smm z u k)), (4, .int (bI (zer z u k)))] → W p l e (headSpec wsX7_gradeOf rm_X7_gradeOf).room s m ([.ref o, .int (nI u), .int k] : List Value).toArray below meth c s.heap [] 0 0 (MQ below (qp (some (.int (gr z u k)))) ([.ref o, .int (nI u), .int k] : List Value).toArray s 0 0 nof) (F0 m 54 ls []) := by
    intro ls hl
    refine lv_iload_n hx hb dX7_gradeOf_54 rfl (lv_at hl 3 rfl) ?_
    refine lv_aload_n hx hb dX7_gradeOf_55 rfl (lv_at hl 0 rfl) ?_
    refine k_get S hK hP.1 rfl (fun _ h => List.mem_cons_of_mem _ (List.mem_append_right _ (h))) 0 (by decide) (List.mem_cons_of_mem _ (List.mem_append_left _ (List.mem_of_getElem? (i := 0) rfl))) rfl (v := .ref (o + 1)) rfl dX7_gradeOf_56 ?_
    refine lv_bipush (v := nI 7) hx hb dX7_gradeOf_59 (by decide) ?_
    refine k_iald hx hb hK hP.2.1 (by omega) (by decide) (v := z 7) rfl dX7_gradeOf_61 ?_
    refine lv_icmp_lt (tgt := 69) hx hb dX7_gradeOf_62 (by decide) (fun c62 => ?_) (fun c62 => ?_)
    · refine lv_iload_n hx hb dX7_gradeOf_69 rfl (lv_at hl 3 rfl) ?_
      refine lv_aload_n hx hb dX7_gradeOf_70 rfl (lv_at hl 0 rfl) ?_
      refine k_get S hK hP.1 rfl (fun _ h => List.mem_cons_of_mem _ (List.mem_append_right _ (h))) 0 (by decide) (List.mem_cons_of_mem _ (List.mem_append_left _ (List.mem_of_getElem? (i := 0) rfl))) rfl (v := .ref (o + 1)) rfl dX7_gradeOf_71 ?_
      refine lv_bipush (v := nI 8) hx hb dX7_gradeOf_74 (by decide) ?_
      refine k_iald hx hb hK hP.2.1 (by omega) (by decide) (v := z 8) rfl dX7_gradeOf_76 ?_
      refine lv_icmp_lt (tgt := 84) hx hb dX7_gradeOf_77 (by decide) (fun c77 => ?_) (fun c77 => ?_)
      · refine lv_iload_n hx hb dX7_gradeOf_84 rfl (lv_at hl 3 rfl) ?_
        refine lv_aload_n hx hb dX7_gradeOf_85 rfl (lv_at hl 0 rfl) ?_
        refine k_get S hK hP.1 rfl (fun _ h => List.mem_cons_of_mem _ (List.mem_append_right _ (h))) 0 (by decide) (List.mem_cons_of_mem _ (List.mem_append_left _ (List.mem_of_getElem? (i := 0) rfl))) rfl (v := .ref (o + 1)) rfl dX7_gradeOf_86 ?_
        refine lv_bipush (v := nI 9) hx hb dX7_gradeOf_89 (by decide) ?_
        refine k_iald hx hb hK hP.2.1 (by omega) (by decide) (v := z 9) rfl dX7_gradeOf_91 ?_
        refine lv_icmp_lt (tgt := 99) hx hb dX7_gradeOf_92 (by decide) (fun c92 => ?_) (fun c92 => ?_)
        · refine lv_iconst (v := nI 3) hx hb dX7_gradeOf_99 (by decide) ?_
          refine k_top (y := gsm z (smm z u k)) (Eq.symm (((iF_t c62).trans ((iF_t c77).trans (iF_t c92))))) ?_
          exact J100 _ (lv_sub hl [0, 1, 2, 3, 4] rfl)
        · refine lv_iconst (v := nI 2) hx hb dX7_gradeOf_95 (by decide) ?_
          refine lv_goto (tgt := 100) hx hb dX7_gradeOf_96 (by decide) ?_
          refine k_top (y := gsm z (smm z u k)) (Eq.symm (((iF_t c62).trans ((iF_t c77).trans (iF_f c92))))) ?_
          exact J100 _ (lv_sub hl [0, 1, 2, 3, 4] rfl)
      · refine lv_iconst (v := nI 1) hx hb dX7_gradeOf_80 (by decide) ?_
        refine lv_goto (tgt := 100) hx hb dX7_gradeOf_81 (by decide) ?_
        refine k_top (y := gsm z (smm z u k)) (Eq.symm (((iF_t c62).trans (iF_f c77)))) ?_
        exact J100 _ (lv_sub hl [0, 1, 2, 3, 4] rfl)
    · refine lv_iconst (v := nI 0) hx hb dX7_gradeOf_65 (by decide) ?_
      refine lv_goto (tgt := 100) hx hb dX7_gradeOf_66 (by decide) ?_
      refine k_top (y := gsm z (smm z u k)) (Eq.symm ((iF_f c62))) ?_
      exact J100 _ (lv_sub hl [0, 1, 2, 3, 4] rfl)
  refine lv_iconst (v := nI 0) hx hb dX7_gradeOf_0 (by decide) ?_
  refine lv_istore_n (lv' := [(3, .int (nI 0)), (0, .ref o), (1, .int (nI u)), (2, .int k)]) hx hb dX7_gradeOf_1 rfl hl (by decide) rfl (fun ls hl => ?_)
  refine lv_iconst (v := nI 0) hx hb dX7_gradeOf_2 (by decide) ?_
  refine lv_istore (lv' := [(4, .int (nI 0)), (3, .int (nI 0)), (0, .ref o), (1, .int (nI u)), (2, .int k)]) hx hb dX7_gradeOf_3 hl (by decide) rfl (fun ls hl => ?_)
  refine lv_iconst (v := nI 0) hx hb dX7_gradeOf_5 (by decide) ?_
  refine lv_istore (lv' := [(5, .int (nI 0)), (4, .int (nI 0)), (3, .int (nI 0)), (0, .ref o), (1, .int (nI u)), (2, .int k)]) hx hb dX7_gradeOf_6 hl (by decide) rfl (fun ls hl => ?_)
  refine lv_iload hx hb dX7_gradeOf_8 (lv_at hl 0 rfl) ?_
  refine lv_iconst (v := nI 4) hx hb dX7_gradeOf_10 (by decide) ?_
  refine n_ige (tgt := 54) hx hb dX7_gradeOf_11 (by decide) (by omega) (by omega) (fun h => absurd h (by decide)) (fun c11 => ?_)
  refine lv_iload_n hx hb dX7_gradeOf_14 rfl (lv_at hl 2 rfl) ?_
  refine lv_aload_n hx hb dX7_gradeOf_15 rfl (lv_at hl 3 rfl) ?_
  refine lv_iload_n hx hb dX7_gradeOf_16 rfl (lv_at hl 4 rfl) ?_
  refine lv_iload hx hb dX7_gradeOf_17 (lv_at hl 0 rfl) ?_
  refine lv_iload_n hx hb dX7_gradeOf_19 rfl (lv_at hl 5 rfl) ?_
  refine k_V (As := [.int (nI u), .int (nI 0), .int k]) (rest := [.int (nI 0)]) S hK (c_X7_score l E o z w u 0 k hI hu c11) gX7_gradeOf_X7_score rfl hd_X7_score ⟨rfl, rfl⟩ ⟨Nat.le_of_ble_eq_true rfl, Nat.le_of_ble_eq_true rfl⟩ (k_recv hK hP.1 rfl) hP rfl hl.1 rfl (Nat.le_of_ble_eq_true rfl) dX7_gradeOf_20 ⟨Nat.le_of_ble_eq_true rfl, Nat.le_of_ble_eq_true rfl⟩ ?_
  refine lv_iadd hx hb dX7_gradeOf_23 ?_
  refine lv_istore_n (lv' := [(3, .int ((nI 0) + (scr z u 0 k))), (5, .int (nI 0)), (4, .int (nI 0)), (0, .ref o), (1, .int (nI u)), (2, .int k)]) hx hb dX7_gradeOf_24 rfl hl (by decide) rfl (fun ls hl => ?_)
  refine lv_iload hx hb dX7_gradeOf_25 (lv_at hl 2 rfl) ?_
  refine lv_if_ne (tgt := 41) hx hb dX7_gradeOf_27 (by decide) (fun h => absurd h (by decide)) (fun c27 => ?_)
  refine lv_aload_n hx hb dX7_gradeOf_30 rfl (lv_at hl 3 rfl) ?_
  refine lv_iload_n hx hb dX7_gradeOf_31 rfl (lv_at hl 4 rfl) ?_
  refine lv_iload hx hb dX7_gradeOf_32 (lv_at hl 1 rfl) ?_
  refine lv_iload_n hx hb dX7_gradeOf_34 rfl (lv_at hl 5 rfl) ?_
  refine k_V (As := [.int (nI u), .int (nI 0), .int k]) (rest := []) S hK (c_X7_score l E o z w u 0 k hI hu c11) gX7_gradeOf_X7_score rfl hd_X7_score ⟨rfl, rfl⟩ ⟨Nat.le_of_ble_eq_true rfl, Nat.le_of_ble_eq_true rfl⟩ (k_recv hK hP.1 rfl) hP rfl hl.1 rfl (Nat.le_of_ble_eq_true rfl) dX7_gradeOf_35 ⟨Nat.le_of_ble_eq_true rfl, Nat.le_of_ble_eq_true rfl⟩ ?_
  refine lv_if_ne (tgt := 45) hx hb dX7_gradeOf_38 (by decide) (fun c38 => ?_) (fun c38 => ?_)
  · refine lv_iconst (v := nI 0) hx hb dX7_gradeOf_45 (by decide) ?_
    refine lv_istore (lv' := [(4, .int (nI 0)), (3, .int ((nI 0) + (scr z u 0 k))), (5, .int (nI 0)), (0, .ref o), (1, .int (nI u)), (2, .int k)]) hx hb dX7_gradeOf_46 hl (by decide) rfl (fun ls hl => ?_)
    refine lv_iinc (v := nI 1) (lv' := [(5, .int (nI 1)), (4, .int (nI 0)), (3, .int ((nI 0) + (scr z u 0 k))), (0, .ref o), (1, .int (nI u)), (2, .int k)]) hx hb dX7_gradeOf_48 hl (k := 2) rfl (by decide) (by decide) rfl (fun ls hl => ?_)
    refine lv_goto (tgt := 8) hx hb dX7_gradeOf_51 (by decide) ?_
    refine lv_iload hx hb dX7_gradeOf_8 (lv_at hl 0 rfl) ?_
    refine lv_iconst (v := nI 4) hx hb dX7_gradeOf_10 (by decide) ?_
    refine n_ige (tgt := 54) hx hb dX7_gradeOf_11 (by decide) (by omega) (by omega) (fun h => absurd h (by decide)) (fun c11_1 => ?_)
    refine lv_iload_n hx hb dX7_gradeOf_14 rfl (lv_at hl 2 rfl) ?_
    refine lv_aload_n hx hb dX7_gradeOf_15 rfl (lv_at hl 3 rfl) ?_
    refine lv_iload_n hx hb dX7_gradeOf_16 rfl (lv_at hl 4 rfl) ?_
    refine lv_iload hx hb dX7_gradeOf_17 (lv_at hl 0 rfl) ?_
    refine lv_iload_n hx hb dX7_gradeOf_19 rfl (lv_at hl 5 rfl) ?_
    refine k_V (As := [.int (nI u), .int (nI 1), .int k]) (rest := [.int ((nI 0) + (scr z u 0 k))]) S hK (c_X7_score l E o z w u 1 k hI hu c11_1) gX7_gradeOf_X7_score rfl hd_X7_score ⟨rfl, rfl⟩ ⟨Nat.le_of_ble_eq_true rfl, Nat.le_of_ble_eq_true rfl⟩ (k_recv hK hP.1 rfl) hP rfl hl.1 rfl (Nat.le_of_ble_eq_true rfl) dX7_gradeOf_20 ⟨Nat.le_of_ble_eq_true rfl, Nat.le_of_ble_eq_true rfl⟩ ?_
    refine lv_iadd hx hb dX7_gradeOf_23 ?_
    refine lv_istore_n (lv' := [(3, .int (((nI 0) + (scr z u 0 k)) + (scr z u 1 k))), (5, .int (nI 1)), (4, .int (nI 0)), (0, .ref o), (1, .int (nI u)), (2, .int k)]) hx hb dX7_gradeOf_24 rfl hl (by decide) rfl (fun ls hl => ?_)
    refine lv_iload hx hb dX7_gradeOf_25 (lv_at hl 2 rfl) ?_
    refine lv_if_ne (tgt := 41) hx hb dX7_gradeOf_27 (by decide) (fun h => absurd h (by decide)) (fun c27_1 => ?_)
    refine lv_aload_n hx hb dX7_gradeOf_30 rfl (lv_at hl 3 rfl) ?_
    refine lv_iload_n hx hb dX7_gradeOf_31 rfl (lv_at hl 4 rfl) ?_
    refine lv_iload hx hb dX7_gradeOf_32 (lv_at hl 1 rfl) ?_
    refine lv_iload_n hx hb dX7_gradeOf_34 rfl (lv_at hl 5 rfl) ?_
    refine k_V (As := [.int (nI u), .int (nI 1), .int k]) (rest := []) S hK (c_X7_score l E o z w u 1 k hI hu c11_1) gX7_gradeOf_X7_score rfl hd_X7_score ⟨rfl, rfl⟩ ⟨Nat.le_of_ble_eq_true rfl, Nat.le_of_ble_eq_true rfl⟩ (k_recv hK hP.1 rfl) hP rfl hl.1 rfl (Nat.le_of_ble_eq_true rfl) dX7_gradeOf_35 ⟨Nat.le_of_ble_eq_true rfl, Nat.le_of_ble_eq_true rfl⟩ ?_
    refine lv_if_ne (tgt := 45) hx hb dX7_gradeOf_38 (by decide) (fun c38_1 => ?_) (fun c38_1 => ?_)
    · refine lv_iconst (v := nI 0) hx hb dX7_gradeOf_45 (by decide) ?_
      refine lv_istore (lv' := [(4, .int (nI 0)), (3, .int (((nI 0) + (scr z u 0 k)) + (scr z u 1 k))), (5, .int (nI 1)), (0, .ref o), (1, .int (nI u)), (2, .int k)]) hx hb dX7_gradeOf_46 hl (by decide) rfl (fun ls hl => ?_)
      refine lv_iinc (v := nI 2) (lv' := [(5, .int (nI 2)), (4, .int (nI 0)), (3, .int (((nI 0) + (scr z u 0 k)) + (scr z u 1 k))), (0, .ref o), (1, .int (nI u)), (2, .int k)]) hx hb dX7_gradeOf_48 hl (k := 2) rfl (by decide) (by decide) rfl (fun ls hl => ?_)
      refine lv_goto (tgt := 8) hx hb dX7_gradeOf_51 (by decide) ?_
      refine lv_iload hx hb dX7_gradeOf_8 (lv_at hl 0 rfl) ?_
      refine lv_iconst (v := nI 4) hx hb dX7_gradeOf_10 (by decide) ?_
      refine n_ige (tgt := 54) hx hb dX7_gradeOf_11 (by decide) (by omega) (by omega) (fun h => absurd h (by decide)) (fun c11_2 => ?_)
      refine lv_iload_n hx hb dX7_gradeOf_14 rfl (lv_at hl 2 rfl) ?_
      refine lv_aload_n hx hb dX7_gradeOf_15 rfl (lv_at hl 3 rfl) ?_
      refine lv_iload_n hx hb dX7_gradeOf_16 rfl (lv_at hl 4 rfl) ?_
      refine lv_iload hx hb dX7_gradeOf_17 (lv_at hl 0 rfl) ?_
      refine lv_iload_n hx hb dX7_gradeOf_19 rfl (lv_at hl 5 rfl) ?_
      refine k_V (As := [.int (nI u), .int (nI 2), .int k]) (rest := [.int (((nI 0) + (scr z u 0 k)) + (scr z u 1 k))]) S hK (c_X7_score l E o z w u 2 k hI hu c11_2) gX7_gradeOf_X7_score rfl hd_X7_score ⟨rfl, rfl⟩ ⟨Nat.le_of_ble_eq_true rfl, Nat.le_of_ble_eq_true rfl⟩ (k_recv hK hP.1 rfl) hP rfl hl.1 rfl (Nat.le_of_ble_eq_true rfl) dX7_gradeOf_20 ⟨Nat.le_of_ble_eq_true rfl, Nat.le_of_ble_eq_true rfl⟩ ?_
      refine lv_iadd hx hb dX7_gradeOf_23 ?_
      refine lv_istore_n (lv' := [(3, .int ((((nI 0) + (scr z u 0 k)) + (scr z u 1 k)) + (scr z u 2 k))), (5, .int (nI 2)), (4, .int (nI 0)), (0, .ref o), (1, .int (nI u)), (2, .int k)]) hx hb dX7_gradeOf_24 rfl hl (by decide) rfl (fun ls hl => ?_)
      refine lv_iload hx hb dX7_gradeOf_25 (lv_at hl 2 rfl) ?_
      refine lv_if_ne (tgt := 41) hx hb dX7_gradeOf_27 (by decide) (fun h => absurd h (by decide)) (fun c27_2 => ?_)
      refine lv_aload_n hx hb dX7_gradeOf_30 rfl (lv_at hl 3 rfl) ?_
      refine lv_iload_n hx hb dX7_gradeOf_31 rfl (lv_at hl 4 rfl) ?_
      refine lv_iload hx hb dX7_gradeOf_32 (lv_at hl 1 rfl) ?_
      refine lv_iload_n hx hb dX7_gradeOf_34 rfl (lv_at hl 5 rfl) ?_
      refine k_V (As := [.int (nI u), .int (nI 2), .int k]) (rest := []) S hK (c_X7_score l E o z w u 2 k hI hu c11_2) gX7_gradeOf_X7_score rfl hd_X7_score ⟨rfl, rfl⟩ ⟨Nat.le_of_ble_eq_true rfl, Nat.le_of_ble_eq_true rfl⟩ (k_recv hK hP.1 rfl) hP rfl hl.1 rfl (Nat.le_of_ble_eq_true rfl) dX7_gradeOf_35 ⟨Nat.le_of_ble_eq_true rfl, Nat.le_of_ble_eq_true rfl⟩ ?_
      refine lv_if_ne (tgt := 45) hx hb dX7_gradeOf_38 (by decide) (fun c38_2 => ?_) (fun c38_2 => ?_)
      · refine lv_iconst (v := nI 0) hx hb dX7_gradeOf_45 (by decide) ?_
        refine lv_istore (lv' := [(4, .int (nI 0)), (3, .int ((((nI 0) + (scr z u 0 k)) + (scr z u 1 k)) + (scr z u 2 k))), (5, .int (nI 2)), (0, .ref o), (1, .int (nI u)), (2, .int k)]) hx hb dX7_gradeOf_46 hl (by decide) rfl (fun ls hl => ?_)
        refine lv_iinc (v := nI 3) (lv' := [(5, .int (nI 3)), (4, .int (nI 0)), (3, .int ((((nI 0) + (scr z u 0 k)) + (scr z u 1 k)) + (scr z u 2 k))), (0, .ref o), (1, .int (nI u)), (2, .int k)]) hx hb dX7_gradeOf_48 hl (k := 2) rfl (by decide) (by decide) rfl (fun ls hl => ?_)
        refine lv_goto (tgt := 8) hx hb dX7_gradeOf_51 (by decide) ?_
        refine lv_iload hx hb dX7_gradeOf_8 (lv_at hl 0 rfl) ?_
        refine lv_iconst (v := nI 4) hx hb dX7_gradeOf_10 (by decide) ?_
        refine n_ige (tgt := 54) hx hb dX7_gradeOf_11 (by decide) (by omega) (by omega) (fun h => absurd h (by decide)) (fun c11_3 => ?_)
        refine lv_iload_n hx hb dX7_gradeOf_14 rfl (lv_at hl 2 rfl) ?_
        refine lv_aload_n hx hb dX7_gradeOf_15 rfl (lv_at hl 3 rfl) ?_
        refine lv_iload_n hx hb dX7_gradeOf_16 rfl (lv_at hl 4 rfl) ?_
        refine lv_iload hx hb dX7_gradeOf_17 (lv_at hl 0 rfl) ?_
        refine lv_iload_n hx hb dX7_gradeOf_19 rfl (lv_at hl 5 rfl) ?_
        refine k_V (As := [.int (nI u), .int (nI 3), .int k]) (rest := [.int ((((nI 0) + (scr z u 0 k)) + (scr z u 1 k)) + (scr z u 2 k))]) S hK (c_X7_score l E o z w u 3 k hI hu c11_3) gX7_gradeOf_X7_score rfl hd_X7_score ⟨rfl, rfl⟩ ⟨Nat.le_of_ble_eq_true rfl, Nat.le_of_ble_eq_true rfl⟩ (k_recv hK hP.1 rfl) hP rfl hl.1 rfl (Nat.le_of_ble_eq_true rfl) dX7_gradeOf_20 ⟨Nat.le_of_ble_eq_true rfl, Nat.le_of_ble_eq_true rfl⟩ ?_
        refine lv_iadd hx hb dX7_gradeOf_23 ?_
        refine lv_istore_n (lv' := [(3, .int (((((nI 0) + (scr z u 0 k)) + (scr z u 1 k)) + (scr z u 2 k)) + (scr z u 3 k))), (5, .int (nI 3)), (4, .int (nI 0)), (0, .ref o), (1, .int (nI u)), (2, .int k)]) hx hb dX7_gradeOf_24 rfl hl (by decide) rfl (fun ls hl => ?_)
        refine lv_iload hx hb dX7_gradeOf_25 (lv_at hl 2 rfl) ?_
        refine lv_if_ne (tgt := 41) hx hb dX7_gradeOf_27 (by decide) (fun h => absurd h (by decide)) (fun c27_3 => ?_)
        refine lv_aload_n hx hb dX7_gradeOf_30 rfl (lv_at hl 3 rfl) ?_
        refine lv_iload_n hx hb dX7_gradeOf_31 rfl (lv_at hl 4 rfl) ?_
        refine lv_iload hx hb dX7_gradeOf_32 (lv_at hl 1 rfl) ?_
        refine lv_iload_n hx hb dX7_gradeOf_34 rfl (lv_at hl 5 rfl) ?_
        refine k_V (As := [.int (nI u), .int (nI 3), .int k]) (rest := []) S hK (c_X7_score l E o z w u 3 k hI hu c11_3) gX7_gradeOf_X7_score rfl hd_X7_score ⟨rfl, rfl⟩ ⟨Nat.le_of_ble_eq_true rfl, Nat.le_of_ble_eq_true rfl⟩ (k_recv hK hP.1 rfl) hP rfl hl.1 rfl (Nat.le_of_ble_eq_true rfl) dX7_gradeOf_35 ⟨Nat.le_of_ble_eq_true rfl, Nat.le_of_ble_eq_true rfl⟩ ?_
        refine lv_if_ne (tgt := 45) hx hb dX7_gradeOf_38 (by decide) (fun c38_3 => ?_) (fun c38_3 => ?_)
        · refine lv_iconst (v := nI 0) hx hb dX7_gradeOf_45 (by decide) ?_
          refine lv_istore (lv' := [(4, .int (nI 0)), (3, .int (((((nI 0) + (scr z u 0 k)) + (scr z u 1 k)) + (scr z u 2 k)) + (scr z u 3 k))), (5, .int (nI 3)), (0, .ref o), (1, .int (nI u)), (2, .int k)]) hx hb dX7_gradeOf_46 hl (by decide) rfl (fun ls hl => ?_)
          refine lv_iinc (v := nI 4) (lv' := [(5, .int (nI 4)), (4, .int (nI 0)), (3, .int (((((nI 0) + (scr z u 0 k)) + (scr z u 1 k)) + (scr z u 2 k)) + (scr z u 3 k))), (0, .ref o), (1, .int (nI u)), (2, .int k)]) hx hb dX7_gradeOf_48 hl (k := 2) rfl (by decide) (by decide) rfl (fun ls hl => ?_)
          refine lv_goto (tgt := 8) hx hb dX7_gradeOf_51 (by decide) ?_
          refine lv_iload hx hb dX7_gradeOf_8 (lv_at hl 0 rfl) ?_
          refine lv_iconst (v := nI 4) hx hb dX7_gradeOf_10 (by decide) ?_
          refine n_ige (tgt := 54) hx hb dX7_gradeOf_11 (by decide) (by omega) (by omega) (fun c11_4 => ?_) (fun h => absurd h (by decide))
          have hl : lv_has ls 6 [(0, .ref o), (1, .int (nI u)), (2, .int k), (3, .int (smm z u k)), (4, .int (bI (zer z u k)))] := by
            have h9 := lv_sub (l' := [(0, .ref o), (1, .int (nI u)), (2, .int k), (3, .int (((((nI 0) + (scr z u 0 k)) + (scr z u 1 k)) + (scr z u 2 k)) + (scr z u 3 k))), (4, .int (nI 0))]) hl [3, 4, 5, 2, 1] rfl
            rw [show (.int (smm z u k) : Value) = .int (((((nI 0) + (scr z u 0 k)) + (scr z u 1 k)) + (scr z u 2 k)) + (scr z u 3 k)) from congrArg Value.int rfl]
            rw [show (.int (bI (zer z u k)) : Value) = .int (nI 0) from congrArg Value.int (bI_f (fun h => h.elim c38 (fun h => h.elim c38_1 (fun h => h.elim c38_2 c38_3))))]
            exact h9
          exact J54 _ hl
        · refine lv_iconst (v := nI 1) hx hb dX7_gradeOf_41 (by decide) ?_
          refine lv_goto (tgt := 46) hx hb dX7_gradeOf_42 (by decide) ?_
          refine lv_istore (lv' := [(4, .int (nI 1)), (3, .int (((((nI 0) + (scr z u 0 k)) + (scr z u 1 k)) + (scr z u 2 k)) + (scr z u 3 k))), (5, .int (nI 3)), (0, .ref o), (1, .int (nI u)), (2, .int k)]) hx hb dX7_gradeOf_46 hl (by decide) rfl (fun ls hl => ?_)
          refine lv_iinc (v := nI 4) (lv' := [(5, .int (nI 4)), (4, .int (nI 1)), (3, .int (((((nI 0) + (scr z u 0 k)) + (scr z u 1 k)) + (scr z u 2 k)) + (scr z u 3 k))), (0, .ref o), (1, .int (nI u)), (2, .int k)]) hx hb dX7_gradeOf_48 hl (k := 2) rfl (by decide) (by decide) rfl (fun ls hl => ?_)
          refine lv_goto (tgt := 8) hx hb dX7_gradeOf_51 (by decide) ?_
          refine lv_iload hx hb dX7_gradeOf_8 (lv_at hl 0 rfl) ?_
          refine lv_iconst (v := nI 4) hx hb dX7_gradeOf_10 (by decide) ?_
          refine n_ige (tgt := 54) hx hb dX7_gradeOf_11 (by decide) (by omega) (by omega) (fun c11_4 => ?_) (fun h => absurd h (by decide))
          have hl : lv_has ls 6 [(0, .ref o), (1, .int (nI u)), (2, .int k), (3, .int (smm z u k)), (4, .int (bI (zer z u k)))] := by
            have h9 := lv_sub (l' := [(0, .ref o), (1, .int (nI u)), (2, .int k), (3, .int (((((nI 0) + (scr z u 0 k)) + (scr z u 1 k)) + (scr z u 2 k)) + (scr z u 3 k))), (4, .int (nI 1))]) hl [3, 4, 5, 2, 1] rfl
            rw [show (.int (smm z u k) : Value) = .int (((((nI 0) + (scr z u 0 k)) + (scr z u 1 k)) + (scr z u 2 k)) + (scr z u 3 k)) from congrArg Value.int rfl]
            rw [show (.int (bI (zer z u k)) : Value) = .int (nI 1) from congrArg Value.int (bI_t (Or.inr (Or.inr (Or.inr (c38_3)))))]
            exact h9
          exact J54 _ hl
      · refine lv_iconst (v := nI 1) hx hb dX7_gradeOf_41 (by decide) ?_
        refine lv_goto (tgt := 46) hx hb dX7_gradeOf_42 (by decide) ?_
        refine lv_istore (lv' := [(4, .int (nI 1)), (3, .int ((((nI 0) + (scr z u 0 k)) + (scr z u 1 k)) + (scr z u 2 k))), (5, .int (nI 2)), (0, .ref o), (1, .int (nI u)), (2, .int k)]) hx hb dX7_gradeOf_46 hl (by decide) rfl (fun ls hl => ?_)
        refine lv_iinc (v := nI 3) (lv' := [(5, .int (nI 3)), (4, .int (nI 1)), (3, .int ((((nI 0) + (scr z u 0 k)) + (scr z u 1 k)) + (scr z u 2 k))), (0, .ref o), (1, .int (nI u)), (2, .int k)]) hx hb dX7_gradeOf_48 hl (k := 2) rfl (by decide) (by decide) rfl (fun ls hl => ?_)
        refine lv_goto (tgt := 8) hx hb dX7_gradeOf_51 (by decide) ?_
        refine lv_iload hx hb dX7_gradeOf_8 (lv_at hl 0 rfl) ?_
        refine lv_iconst (v := nI 4) hx hb dX7_gradeOf_10 (by decide) ?_
        refine n_ige (tgt := 54) hx hb dX7_gradeOf_11 (by decide) (by omega) (by omega) (fun h => absurd h (by decide)) (fun c11_3 => ?_)
        refine lv_iload_n hx hb dX7_gradeOf_14 rfl (lv_at hl 2 rfl) ?_
        refine lv_aload_n hx hb dX7_gradeOf_15 rfl (lv_at hl 3 rfl) ?_
        refine lv_iload_n hx hb dX7_gradeOf_16 rfl (lv_at hl 4 rfl) ?_
        refine lv_iload hx hb dX7_gradeOf_17 (lv_at hl 0 rfl) ?_
        refine lv_iload_n hx hb dX7_gradeOf_19 rfl (lv_at hl 5 rfl) ?_
        refine k_V (As := [.int (nI u), .int (nI 3), .int k]) (rest := [.int ((((nI 0) + (scr z u 0 k)) + (scr z u 1 k)) + (scr z u 2 k))]) S hK (c_X7_score l E o z w u 3 k hI hu c11_3) gX7_gradeOf_X7_score rfl hd_X7_score ⟨rfl, rfl⟩ ⟨Nat.le_of_ble_eq_true rfl, Nat.le_of_ble_eq_true rfl⟩ (k_recv hK hP.1 rfl) hP rfl hl.1 rfl (Nat.le_of_ble_eq_true rfl) dX7_gradeOf_20 ⟨Nat.le_of_ble_eq_true rfl, Nat.le_of_ble_eq_true rfl⟩ ?_
        refine lv_iadd hx hb dX7_gradeOf_23 ?_
        refine lv_istore_n (lv' := [(3, .int (((((nI 0) + (scr z u 0 k)) + (scr z u 1 k)) + (scr z u 2 k)) + (scr z u 3 k))), (5, .int (nI 3)), (4, .int (nI 1)), (0, .ref o), (1, .int (nI u)), (2, .int k)]) hx hb dX7_gradeOf_24 rfl hl (by decide) rfl (fun ls hl => ?_)
        refine lv_iload hx hb dX7_gradeOf_25 (lv_at hl 2 rfl) ?_
        refine lv_if_ne (tgt := 41) hx hb dX7_gradeOf_27 (by decide) (fun c27_3 => ?_) (fun h => absurd h (by decide))
        refine lv_iconst (v := nI 1) hx hb dX7_gradeOf_41 (by decide) ?_
        refine lv_goto (tgt := 46) hx hb dX7_gradeOf_42 (by decide) ?_
        refine lv_istore (lv' := [(4, .int (nI 1)), (3, .int (((((nI 0) + (scr z u 0 k)) + (scr z u 1 k)) + (scr z u 2 k)) + (scr z u 3 k))), (5, .int (nI 3)), (0, .ref o), (1, .int (nI u)), (2, .int k)]) hx hb dX7_gradeOf_46 hl (by decide) rfl (fun ls hl => ?_)
        refine lv_iinc (v := nI 4) (lv' := [(5, .int (nI 4)), (4, .int (nI 1)), (3, .int (((((nI 0) + (scr z u 0 k)) + (scr z u 1 k)) + (scr z u 2 k)) + (scr z u 3 k))), (0, .ref o), (1, .int (nI u)), (2, .int k)]) hx hb dX7_gradeOf_48 hl (k := 2) rfl (by decide) (by decide) rfl (fun ls hl => ?_)
        refine lv_goto (tgt := 8) hx hb dX7_gradeOf_51 (by decide) ?_
        refine lv_iload hx hb dX7_gradeOf_8 (lv_at hl 0 rfl) ?_
        refine lv_iconst (v := nI 4) hx hb dX7_gradeOf_10 (by decide) ?_
        refine n_ige (tgt := 54) hx hb dX7_gradeOf_11 (by decide) (by omega) (by omega) (fun c11_4 => ?_) (fun h => absurd h (by decide))
        have hl : lv_has ls 6 [(0, .ref o), (1, .int (nI u)), (2, .int k), (3, .int (smm z u k)), (4, .int (bI (zer z u k)))] := by
          have h9 := lv_sub (l' := [(0, .ref o), (1, .int (nI u)), (2, .int k), (3, .int (((((nI 0) + (scr z u 0 k)) + (scr z u 1 k)) + (scr z u 2 k)) + (scr z u 3 k))), (4, .int (nI 1))]) hl [3, 4, 5, 2, 1] rfl
          rw [show (.int (smm z u k) : Value) = .int (((((nI 0) + (scr z u 0 k)) + (scr z u 1 k)) + (scr z u 2 k)) + (scr z u 3 k)) from congrArg Value.int rfl]
          rw [show (.int (bI (zer z u k)) : Value) = .int (nI 1) from congrArg Value.int (bI_t (Or.inr (Or.inr (Or.inl c38_2))))]
          exact h9
        exact J54 _ hl
    · refine lv_iconst (v := nI 1) hx hb dX7_gradeOf_41 (by decide) ?_
      refine lv_goto (tgt := 46) hx hb dX7_gradeOf_42 (by decide) ?_
      refine lv_istore (lv' := [(4, .int (nI 1)), (3, .int (((nI 0) + (scr z u 0 k)) + (scr z u 1 k))), (5, .int (nI 1)), (0, .ref o), (1, .int (nI u)), (2, .int k)]) hx hb dX7_gradeOf_46 hl (by decide) rfl (fun ls hl => ?_)
      refine lv_iinc (v := nI 2) (lv' := [(5, .int (nI 2)), (4, .int (nI 1)), (3, .int (((nI 0) + (scr z u 0 k)) + (scr z u 1 k))), (0, .ref o), (1, .int (nI u)), (2, .int k)]) hx hb dX7_gradeOf_48 hl (k := 2) rfl (by decide) (by decide) rfl (fun ls hl => ?_)
      refine lv_goto (tgt := 8) hx hb dX7_gradeOf_51 (by decide) ?_
      refine lv_iload hx hb dX7_gradeOf_8 (lv_at hl 0 rfl) ?_
      refine lv_iconst (v := nI 4) hx hb dX7_gradeOf_10 (by decide) ?_
      refine n_ige (tgt := 54) hx hb dX7_gradeOf_11 (by decide) (by omega) (by omega) (fun h => absurd h (by decide)) (fun c11_2 => ?_)
      refine lv_iload_n hx hb dX7_gradeOf_14 rfl (lv_at hl 2 rfl) ?_
      refine lv_aload_n hx hb dX7_gradeOf_15 rfl (lv_at hl 3 rfl) ?_
      refine lv_iload_n hx hb dX7_gradeOf_16 rfl (lv_at hl 4 rfl) ?_
      refine lv_iload hx hb dX7_gradeOf_17 (lv_at hl 0 rfl) ?_
      refine lv_iload_n hx hb dX7_gradeOf_19 rfl (lv_at hl 5 rfl) ?_
      refine k_V (As := [.int (nI u), .int (nI 2), .int k]) (rest := [.int (((nI 0) + (scr z u 0 k)) + (scr z u 1 k))]) S hK (c_X7_score l E o z w u 2 k hI hu c11_2) gX7_gradeOf_X7_score rfl hd_X7_score ⟨rfl, rfl⟩ ⟨Nat.le_of_ble_eq_true rfl, Nat.le_of_ble_eq_true rfl⟩ (k_recv hK hP.1 rfl) hP rfl hl.1 rfl (Nat.le_of_ble_eq_true rfl) dX7_gradeOf_20 ⟨Nat.le_of_ble_eq_true rfl, Nat.le_of_ble_eq_true rfl⟩ ?_
      refine lv_iadd hx hb dX7_gradeOf_23 ?_
      refine lv_istore_n (lv' := [(3, .int ((((nI 0) + (scr z u 0 k)) + (scr z u 1 k)) + (scr z u 2 k))), (5, .int (nI 2)), (4, .int (nI 1)), (0, .ref o), (1, .int (nI u)), (2, .int k)]) hx hb dX7_gradeOf_24 rfl hl (by decide) rfl (fun ls hl => ?_)
      refine lv_iload hx hb dX7_gradeOf_25 (lv_at hl 2 rfl) ?_
      refine lv_if_ne (tgt := 41) hx hb dX7_gradeOf_27 (by decide) (fun c27_2 => ?_) (fun h => absurd h (by decide))
      refine lv_iconst (v := nI 1) hx hb dX7_gradeOf_41 (by decide) ?_
      refine lv_goto (tgt := 46) hx hb dX7_gradeOf_42 (by decide) ?_
      refine lv_istore (lv' := [(4, .int (nI 1)), (3, .int ((((nI 0) + (scr z u 0 k)) + (scr z u 1 k)) + (scr z u 2 k))), (5, .int (nI 2)), (0, .ref o), (1, .int (nI u)), (2, .int k)]) hx hb dX7_gradeOf_46 hl (by decide) rfl (fun ls hl => ?_)
      refine lv_iinc (v := nI 3) (lv' := [(5, .int (nI 3)), (4, .int (nI 1)), (3, .int ((((nI 0) + (scr z u 0 k)) + (scr z u 1 k)) + (scr z u 2 k))), (0, .ref o), (1, .int (nI u)), (2, .int k)]) hx hb dX7_gradeOf_48 hl (k := 2) rfl (by decide) (by decide) rfl (fun ls hl => ?_)
      refine lv_goto (tgt := 8) hx hb dX7_gradeOf_51 (by decide) ?_
      refine lv_iload hx hb dX7_gradeOf_8 (lv_at hl 0 rfl) ?_
      refine lv_iconst (v := nI 4) hx hb dX7_gradeOf_10 (by decide) ?_
      refine n_ige (tgt := 54) hx hb dX7_gradeOf_11 (by decide) (by omega) (by omega) (fun h => absurd h (by decide)) (fun c11_3 => ?_)
      refine lv_iload_n hx hb dX7_gradeOf_14 rfl (lv_at hl 2 rfl) ?_
      refine lv_aload_n hx hb dX7_gradeOf_15 rfl (lv_at hl 3 rfl) ?_
      refine lv_iload_n hx hb dX7_gradeOf_16 rfl (lv_at hl 4 rfl) ?_
      refine lv_iload hx hb dX7_gradeOf_17 (lv_at hl 0 rfl) ?_
      refine lv_iload_n hx hb dX7_gradeOf_19 rfl (lv_at hl 5 rfl) ?_
      refine k_V (As := [.int (nI u), .int (nI 3), .int k]) (rest := [.int ((((nI 0) + (scr z u 0 k)) + (scr z u 1 k)) + (scr z u 2 k))]) S hK (c_X7_score l E o z w u 3 k hI hu c11_3) gX7_gradeOf_X7_score rfl hd_X7_score ⟨rfl, rfl⟩ ⟨Nat.le_of_ble_eq_true rfl, Nat.le_of_ble_eq_true rfl⟩ (k_recv hK hP.1 rfl) hP rfl hl.1 rfl (Nat.le_of_ble_eq_true rfl) dX7_gradeOf_20 ⟨Nat.le_of_ble_eq_true rfl, Nat.le_of_ble_eq_true rfl⟩ ?_
      refine lv_iadd hx hb dX7_gradeOf_23 ?_
      refine lv_istore_n (lv' := [(3, .int (((((nI 0) + (scr z u 0 k)) + (scr z u 1 k)) + (scr z u 2 k)) + (scr z u 3 k))), (5, .int (nI 3)), (4, .int (nI 1)), (0, .ref o), (1, .int (nI u)), (2, .int k)]) hx hb dX7_gradeOf_24 rfl hl (by decide) rfl (fun ls hl => ?_)
      refine lv_iload hx hb dX7_gradeOf_25 (lv_at hl 2 rfl) ?_
      refine lv_if_ne (tgt := 41) hx hb dX7_gradeOf_27 (by decide) (fun c27_3 => ?_) (fun h => absurd h (by decide))
      refine lv_iconst (v := nI 1) hx hb dX7_gradeOf_41 (by decide) ?_
      refine lv_goto (tgt := 46) hx hb dX7_gradeOf_42 (by decide) ?_
      refine lv_istore (lv' := [(4, .int (nI 1)), (3, .int (((((nI 0) + (scr z u 0 k)) + (scr z u 1 k)) + (scr z u 2 k)) + (scr z u 3 k))), (5, .int (nI 3)), (0, .ref o), (1, .int (nI u)), (2, .int k)]) hx hb dX7_gradeOf_46 hl (by decide) rfl (fun ls hl => ?_)
      refine lv_iinc (v := nI 4) (lv' := [(5, .int (nI 4)), (4, .int (nI 1)), (3, .int (((((nI 0) + (scr z u 0 k)) + (scr z u 1 k)) + (scr z u 2 k)) + (scr z u 3 k))), (0, .ref o), (1, .int (nI u)), (2, .int k)]) hx hb dX7_gradeOf_48 hl (k := 2) rfl (by decide) (by decide) rfl (fun ls hl => ?_)
      refine lv_goto (tgt := 8) hx hb dX7_gradeOf_51 (by decide) ?_
      refine lv_iload hx hb dX7_gradeOf_8 (lv_at hl 0 rfl) ?_
      refine lv_iconst (v := nI 4) hx hb dX7_gradeOf_10 (by decide) ?_
      refine n_ige (tgt := 54) hx hb dX7_gradeOf_11 (by decide) (by omega) (by omega) (fun c11_4 => ?_) (fun h => absurd h (by decide))
      have hl : lv_has ls 6 [(0, .ref o), (1, .int (nI u)), (2, .int k), (3, .int (smm z u k)), (4, .int (bI (zer z u k)))] := by
        have h9 := lv_sub (l' := [(0, .ref o), (1, .int (nI u)), (2, .int k), (3, .int (((((nI 0) + (scr z u 0 k)) + (scr z u 1 k)) + (scr z u 2 k)) + (scr z u 3 k))), (4, .int (nI 1))]) hl [3, 4, 5, 2, 1] rfl
        rw [show (.int (smm z u k) : Value) = .int (((((nI 0) + (scr z u 0 k)) + (scr z u 1 k)) + (scr z u 2 k)) + (scr z u 3 k)) from congrArg Value.int rfl]
        rw [show (.int (bI (zer z u k)) : Value) = .int (nI 1) from congrArg Value.int (bI_t (Or.inr (Or.inl c38_1)))]
        exact h9
      exact J54 _ hl
  · refine lv_iconst (v := nI 1) hx hb dX7_gradeOf_41 (by decide) ?_
    refine lv_goto (tgt := 46) hx hb dX7_gradeOf_42 (by decide) ?_
    refine lv_istore (lv' := [(4, .int (nI 1)), (3, .int ((nI 0) + (scr z u 0 k))), (5, .int (nI 0)), (0, .ref o), (1, .int (nI u)), (2, .int k)]) hx hb dX7_gradeOf_46 hl (by decide) rfl (fun ls hl => ?_)
    refine lv_iinc (v := nI 1) (lv' := [(5, .int (nI 1)), (4, .int (nI 1)), (3, .int ((nI 0) + (scr z u 0 k))), (0, .ref o), (1, .int (nI u)), (2, .int k)]) hx hb dX7_gradeOf_48 hl (k := 2) rfl (by decide) (by decide) rfl (fun ls hl => ?_)
    refine lv_goto (tgt := 8) hx hb dX7_gradeOf_51 (by decide) ?_
    refine lv_iload hx hb dX7_gradeOf_8 (lv_at hl 0 rfl) ?_
    refine lv_iconst (v := nI 4) hx hb dX7_gradeOf_10 (by decide) ?_
    refine n_ige (tgt := 54) hx hb dX7_gradeOf_11 (by decide) (by omega) (by omega) (fun h => absurd h (by decide)) (fun c11_1 => ?_)
    refine lv_iload_n hx hb dX7_gradeOf_14 rfl (lv_at hl 2 rfl) ?_
    refine lv_aload_n hx hb dX7_gradeOf_15 rfl (lv_at hl 3 rfl) ?_
    refine lv_iload_n hx hb dX7_gradeOf_16 rfl (lv_at hl 4 rfl) ?_
    refine lv_iload hx hb dX7_gradeOf_17 (lv_at hl 0 rfl) ?_
    refine lv_iload_n hx hb dX7_gradeOf_19 rfl (lv_at hl 5 rfl) ?_
    refine k_V (As := [.int (nI u), .int (nI 1), .int k]) (rest := [.int ((nI 0) + (scr z u 0 k))]) S hK (c_X7_score l E o z w u 1 k hI hu c11_1) gX7_gradeOf_X7_score rfl hd_X7_score ⟨rfl, rfl⟩ ⟨Nat.le_of_ble_eq_true rfl, Nat.le_of_ble_eq_true rfl⟩ (k_recv hK hP.1 rfl) hP rfl hl.1 rfl (Nat.le_of_ble_eq_true rfl) dX7_gradeOf_20 ⟨Nat.le_of_ble_eq_true rfl, Nat.le_of_ble_eq_true rfl⟩ ?_
    refine lv_iadd hx hb dX7_gradeOf_23 ?_
    refine lv_istore_n (lv' := [(3, .int (((nI 0) + (scr z u 0 k)) + (scr z u 1 k))), (5, .int (nI 1)), (4, .int (nI 1)), (0, .ref o), (1, .int (nI u)), (2, .int k)]) hx hb dX7_gradeOf_24 rfl hl (by decide) rfl (fun ls hl => ?_)
    refine lv_iload hx hb dX7_gradeOf_25 (lv_at hl 2 rfl) ?_
    refine lv_if_ne (tgt := 41) hx hb dX7_gradeOf_27 (by decide) (fun c27_1 => ?_) (fun h => absurd h (by decide))
    refine lv_iconst (v := nI 1) hx hb dX7_gradeOf_41 (by decide) ?_
    refine lv_goto (tgt := 46) hx hb dX7_gradeOf_42 (by decide) ?_
    refine lv_istore (lv' := [(4, .int (nI 1)), (3, .int (((nI 0) + (scr z u 0 k)) + (scr z u 1 k))), (5, .int (nI 1)), (0, .ref o), (1, .int (nI u)), (2, .int k)]) hx hb dX7_gradeOf_46 hl (by decide) rfl (fun ls hl => ?_)
    refine lv_iinc (v := nI 2) (lv' := [(5, .int (nI 2)), (4, .int (nI 1)), (3, .int (((nI 0) + (scr z u 0 k)) + (scr z u 1 k))), (0, .ref o), (1, .int (nI u)), (2, .int k)]) hx hb dX7_gradeOf_48 hl (k := 2) rfl (by decide) (by decide) rfl (fun ls hl => ?_)
    refine lv_goto (tgt := 8) hx hb dX7_gradeOf_51 (by decide) ?_
    refine lv_iload hx hb dX7_gradeOf_8 (lv_at hl 0 rfl) ?_
    refine lv_iconst (v := nI 4) hx hb dX7_gradeOf_10 (by decide) ?_
    refine n_ige (tgt := 54) hx hb dX7_gradeOf_11 (by decide) (by omega) (by omega) (fun h => absurd h (by decide)) (fun c11_2 => ?_)
    refine lv_iload_n hx hb dX7_gradeOf_14 rfl (lv_at hl 2 rfl) ?_
    refine lv_aload_n hx hb dX7_gradeOf_15 rfl (lv_at hl 3 rfl) ?_
    refine lv_iload_n hx hb dX7_gradeOf_16 rfl (lv_at hl 4 rfl) ?_
    refine lv_iload hx hb dX7_gradeOf_17 (lv_at hl 0 rfl) ?_
    refine lv_iload_n hx hb dX7_gradeOf_19 rfl (lv_at hl 5 rfl) ?_
    refine k_V (As := [.int (nI u), .int (nI 2), .int k]) (rest := [.int (((nI 0) + (scr z u 0 k)) + (scr z u 1 k))]) S hK (c_X7_score l E o z w u 2 k hI hu c11_2) gX7_gradeOf_X7_score rfl hd_X7_score ⟨rfl, rfl⟩ ⟨Nat.le_of_ble_eq_true rfl, Nat.le_of_ble_eq_true rfl⟩ (k_recv hK hP.1 rfl) hP rfl hl.1 rfl (Nat.le_of_ble_eq_true rfl) dX7_gradeOf_20 ⟨Nat.le_of_ble_eq_true rfl, Nat.le_of_ble_eq_true rfl⟩ ?_
    refine lv_iadd hx hb dX7_gradeOf_23 ?_
    refine lv_istore_n (lv' := [(3, .int ((((nI 0) + (scr z u 0 k)) + (scr z u 1 k)) + (scr z u 2 k))), (5, .int (nI 2)), (4, .int (nI 1)), (0, .ref o), (1, .int (nI u)), (2, .int k)]) hx hb dX7_gradeOf_24 rfl hl (by decide) rfl (fun ls hl => ?_)
    refine lv_iload hx hb dX7_gradeOf_25 (lv_at hl 2 rfl) ?_
    refine lv_if_ne (tgt := 41) hx hb dX7_gradeOf_27 (by decide) (fun c27_2 => ?_) (fun h => absurd h (by decide))
    refine lv_iconst (v := nI 1) hx hb dX7_gradeOf_41 (by decide) ?_
    refine lv_goto (tgt := 46) hx hb dX7_gradeOf_42 (by decide) ?_
    refine lv_istore (lv' := [(4, .int (nI 1)), (3, .int ((((nI 0) + (scr z u 0 k)) + (scr z u 1 k)) + (scr z u 2 k))), (5, .int (nI 2)), (0, .ref o), (1, .int (nI u)), (2, .int k)]) hx hb dX7_gradeOf_46 hl (by decide) rfl (fun ls hl => ?_)
    refine lv_iinc (v := nI 3) (lv' := [(5, .int (nI 3)), (4, .int (nI 1)), (3, .int ((((nI 0) + (scr z u 0 k)) + (scr z u 1 k)) + (scr z u 2 k))), (0, .ref o), (1, .int (nI u)), (2, .int k)]) hx hb dX7_gradeOf_48 hl (k := 2) rfl (by decide) (by decide) rfl (fun ls hl => ?_)
    refine lv_goto (tgt := 8) hx hb dX7_gradeOf_51 (by decide) ?_
    refine lv_iload hx hb dX7_gradeOf_8 (lv_at hl 0 rfl) ?_
    refine lv_iconst (v := nI 4) hx hb dX7_gradeOf_10 (by decide) ?_
    refine n_ige (tgt := 54) hx hb dX7_gradeOf_11 (by decide) (by omega) (by omega) (fun h => absurd h (by decide)) (fun c11_3 => ?_)
    refine lv_iload_n hx hb dX7_gradeOf_14 rfl (lv_at hl 2 rfl) ?_
    refine lv_aload_n hx hb dX7_gradeOf_15 rfl (lv_at hl 3 rfl) ?_
    refine lv_iload_n hx hb dX7_gradeOf_16 rfl (lv_at hl 4 rfl) ?_
    refine lv_iload hx hb dX7_gradeOf_17 (lv_at hl 0 rfl) ?_
    refine lv_iload_n hx hb dX7_gradeOf_19 rfl (lv_at hl 5 rfl) ?_
    refine k_V (As := [.int (nI u), .int (nI 3), .int k]) (rest := [.int ((((nI 0) + (scr z u 0 k)) + (scr z u 1 k)) + (scr z u 2 k))]) S hK (c_X7_score l E o z w u 3 k hI hu c11_3) gX7_gradeOf_X7_score rfl hd_X7_score ⟨rfl, rfl⟩ ⟨Nat.le_of_ble_eq_true rfl, Nat.le_of_ble_eq_true rfl⟩ (k_recv hK hP.1 rfl) hP rfl hl.1 rfl (Nat.le_of_ble_eq_true rfl) dX7_gradeOf_20 ⟨Nat.le_of_ble_eq_true rfl, Nat.le_of_ble_eq_true rfl⟩ ?_
    refine lv_iadd hx hb dX7_gradeOf_23 ?_
    refine lv_istore_n (lv' := [(3, .int (((((nI 0) + (scr z u 0 k)) + (scr z u 1 k)) + (scr z u 2 k)) + (scr z u 3 k))), (5, .int (nI 3)), (4, .int (nI 1)), (0, .ref o), (1, .int (nI u)), (2, .int k)]) hx hb dX7_gradeOf_24 rfl hl (by decide) rfl (fun ls hl => ?_)
    refine lv_iload hx hb dX7_gradeOf_25 (lv_at hl 2 rfl) ?_
    refine lv_if_ne (tgt := 41) hx hb dX7_gradeOf_27 (by decide) (fun c27_3 => ?_) (fun h => absurd h (by decide))
    refine lv_iconst (v := nI 1) hx hb dX7_gradeOf_41 (by decide) ?_
    refine lv_goto (tgt := 46) hx hb dX7_gradeOf_42 (by decide) ?_
    refine lv_istore (lv' := [(4, .int (nI 1)), (3, .int (((((nI 0) + (scr z u 0 k)) + (scr z u 1 k)) + (scr z u 2 k)) + (scr z u 3 k))), (5, .int (nI 3)), (0, .ref o), (1, .int (nI u)), (2, .int k)]) hx hb dX7_gradeOf_46 hl (by decide) rfl (fun ls hl => ?_)
    refine lv_iinc (v := nI 4) (lv' := [(5, .int (nI 4)), (4, .int (nI 1)), (3, .int (((((nI 0) + (scr z u 0 k)) + (scr z u 1 k)) + (scr z u 2 k)) + (scr z u 3 k))), (0, .ref o), (1, .int (nI u)), (2, .int k)]) hx hb dX7_gradeOf_48 hl (k := 2) rfl (by decide) (by decide) rfl (fun ls hl => ?_)
    refine lv_goto (tgt := 8) hx hb dX7_gradeOf_51 (by decide) ?_
    refine lv_iload hx hb dX7_gradeOf_8 (lv_at hl 0 rfl) ?_
    refine lv_iconst (v := nI 4) hx hb dX7_gradeOf_10 (by decide) ?_
    refine n_ige (tgt := 54) hx hb dX7_gradeOf_11 (by decide) (by omega) (by omega) (fun c11_4 => ?_) (fun h => absurd h (by decide))
    have hl : lv_has ls 6 [(0, .ref o), (1, .int (nI u)), (2, .int k), (3, .int (smm z u k)), (4, .int (bI (zer z u k)))] := by
      have h9 := lv_sub (l' := [(0, .ref o), (1, .int (nI u)), (2, .int k), (3, .int (((((nI 0) + (scr z u 0 k)) + (scr z u 1 k)) + (scr z u 2 k)) + (scr z u 3 k))), (4, .int (nI 1))]) hl [3, 4, 5, 2, 1] rfl
      rw [show (.int (smm z u k) : Value) = .int (((((nI 0) + (scr z u 0 k)) + (scr z u 1 k)) + (scr z u 2 k)) + (scr z u 3 k)) from congrArg Value.int rfl]
      rw [show (.int (bI (zer z u k)) : Value) = .int (nI 1) from congrArg Value.int (bI_t (Or.inl c38))]
      exact h9
    exact J54 _ hl
def rm_X7_gradeTold : Room := { frames := 3, cells := 0, slots := 0, locals := 69 }
theorem hd_X7_gradeTold : k_hd1 yX7_gradeTold RX7 1 := by decide +kernel
set_option maxHeartbeats 4000000 in
set_option maxRecDepth 100000 in
theorem c_X7_gradeTold (l : Launch) (E : ke_E) (o : Nat) (z : Nat → Int32) (w : md_w) (u : Nat) (hI : iv z) (hu : u < cn z) : Met l yX7_gradeTold wsX7_gradeTold rm_X7_gradeTold (kp E [.ref o, .int (nI u)] (md E o z w)) (qp (some (.int (grT z u)))) 0 0 nof := by
  refine k_hd (cc := cX7_gradeTold) (maxL := 2) (ret := (some .int)) (by decide) rfl (Nat.le_of_ble_eq_true rfl) ?_
  intro p e s m below meth c ls S hr hlk hnm hK hP hl
  have hx := S.1
  have hb := S.2.1
  have hts := S.2.2.2.2
  have hP : md E o z w s.heap := hP
  have hl : lv_has ls 2 [(0, .ref o), (1, .int (nI u))] := hl
  have hcn := iv_c hI
  refine lv_aload_n hx hb dX7_gradeTold_0 rfl (lv_at hl 0 rfl) ?_
  refine lv_iload_n hx hb dX7_gradeTold_1 rfl (lv_at hl 1 rfl) ?_
  refine k_V (As := [.int (nI u)]) (rest := []) S hK (c_X7_isTested l E o z w u hI hu) gX7_gradeTold_X7_isTested rfl hd_X7_isTested ⟨rfl, rfl⟩ ⟨Nat.le_of_ble_eq_true rfl, Nat.le_of_ble_eq_true rfl⟩ (k_recv hK hP.1 rfl) hP rfl hl.1 rfl (Nat.le_of_ble_eq_true rfl) dX7_gradeTold_2 ⟨Nat.le_of_ble_eq_true rfl, Nat.le_of_ble_eq_true rfl⟩ ?_
  refine b_eq (tgt := 17) hx hb dX7_gradeTold_5 (by decide) (fun c5 => ?_) (fun c5 => ?_)
  · refine lv_iconst (v := (-1)) hx hb dX7_gradeTold_17 (by decide) ?_
    exact k_iret hx hb hr hlk dX7_gradeTold_18 (iF_f c5)
  · refine lv_aload_n hx hb dX7_gradeTold_8 rfl (lv_at hl 0 rfl) ?_
    refine lv_iload_n hx hb dX7_gradeTold_9 rfl (lv_at hl 1 rfl) ?_
    refine lv_iconst (v := nI 0) hx hb dX7_gradeTold_10 (by decide) ?_
    refine k_V (As := [.int (nI u), .int (nI 0)]) (rest := []) S hK (c_X7_gradeOf l E o z w u (nI 0) hI hu) gX7_gradeTold_X7_gradeOf rfl hd_X7_gradeOf ⟨rfl, rfl⟩ ⟨Nat.le_of_ble_eq_true rfl, Nat.le_of_ble_eq_true rfl⟩ (k_recv hK hP.1 rfl) hP rfl hl.1 rfl (Nat.le_of_ble_eq_true rfl) dX7_gradeTold_11 ⟨Nat.le_of_ble_eq_true rfl, Nat.le_of_ble_eq_true rfl⟩ ?_
    refine lv_goto (tgt := 18) hx hb dX7_gradeTold_14 (by decide) ?_
    exact k_iret hx hb hr hlk dX7_gradeTold_18 (iF_t c5)
def rm_X7_price : Room := { frames := 2, cells := 0, slots := 0, locals := 41 }
theorem hd_X7_price : k_hd1 yX7_price RX7 2 := by decide +kernel
set_option maxHeartbeats 4000000 in
set_option maxRecDepth 100000 in
theorem c_X7_price (l : Launch) (E : ke_E) (o : Nat) (z : Nat → Int32) (w : md_w) (u : Nat) (g : Int32) (hI : iv z) (hu : u < cn z) : Met l yX7_price wsX7_price rm_X7_price (kp E [.ref o, .int (nI u), .int g] (md E o z w)) (qp (some (.int (prc z u g)))) 0 0 nof := by
  refine k_hd (cc := cX7_price) (maxL := 4) (ret := (some .int)) (by decide) rfl (Nat.le_of_ble_eq_true rfl) ?_
  intro p e s m below meth c ls S hr hlk hnm hK hP hl
  have hx := S.1
  have hb := S.2.1
  have hts := S.2.2.2.2
  have hP : md E o z w s.heap := hP
  have hl : lv_has ls 4 [(0, .ref o), (1, .int (nI u)), (2, .int g)] := hl
  have hcn := iv_c hI
  refine lv_iload_n hx hb dX7_price_0 rfl (lv_at hl 2 rfl) ?_
  refine lv_if_ne (tgt := 9) hx hb dX7_price_1 (by decide) (fun c1 => ?_) (fun c1 => ?_)
  · refine lv_iload_n hx hb dX7_price_9 rfl (lv_at hl 2 rfl) ?_
    refine lv_iconst (v := nI 1) hx hb dX7_price_10 (by decide) ?_
    refine lv_icmp_ne (tgt := 19) hx hb dX7_price_11 (by decide) (fun c11 => ?_) (fun c11 => ?_)
    · refine lv_iload_n hx hb dX7_price_19 rfl (lv_at hl 2 rfl) ?_
      refine lv_iconst (v := nI 2) hx hb dX7_price_20 (by decide) ?_
      refine lv_icmp_ne (tgt := 29) hx hb dX7_price_21 (by decide) (fun c21 => ?_) (fun c21 => ?_)
      · refine lv_iconst (v := nI 0) hx hb dX7_price_29 (by decide) ?_
        refine lv_istore_n (lv' := [(3, .int (nI 0)), (0, .ref o), (1, .int (nI u)), (2, .int g)]) hx hb dX7_price_30 rfl hl (by decide) rfl (fun ls hl => ?_)
        refine lv_aload_n hx hb dX7_price_31 rfl (lv_at hl 1 rfl) ?_
        refine lv_iload_n hx hb dX7_price_32 rfl (lv_at hl 2 rfl) ?_
        refine k_V (As := [.int (nI u)]) (rest := []) S hK (c_X7_costOf l E o z w u hI hu) gX7_price_X7_costOf rfl hd_X7_costOf ⟨rfl, rfl⟩ ⟨Nat.le_of_ble_eq_true rfl, Nat.le_of_ble_eq_true rfl⟩ (k_recv hK hP.1 rfl) hP rfl hl.1 rfl (Nat.le_of_ble_eq_true rfl) dX7_price_33 ⟨Nat.le_of_ble_eq_true rfl, Nat.le_of_ble_eq_true rfl⟩ ?_
        refine lv_iload_n hx hb dX7_price_36 rfl (lv_at hl 0 rfl) ?_
        refine lv_imul hx hb dX7_price_37 ?_
        refine lv_bipush (v := nI 100) hx hb dX7_price_38 (by decide) ?_
        refine lv_idiv hx hb dX7_price_40 (by decide) ?_
        exact k_iret hx hb hr hlk dX7_price_41 (congrArg (fun x => cst z u * x / nI 100) (show prt g = _ from (iF_f c1).trans ((iF_f c11).trans (iF_f c21))))
      · refine lv_bipush (v := nI 40) hx hb dX7_price_24 (by decide) ?_
        refine lv_goto (tgt := 30) hx hb dX7_price_26 (by decide) ?_
        refine lv_istore_n (lv' := [(3, .int (nI 40)), (0, .ref o), (1, .int (nI u)), (2, .int g)]) hx hb dX7_price_30 rfl hl (by decide) rfl (fun ls hl => ?_)
        refine lv_aload_n hx hb dX7_price_31 rfl (lv_at hl 1 rfl) ?_
        refine lv_iload_n hx hb dX7_price_32 rfl (lv_at hl 2 rfl) ?_
        refine k_V (As := [.int (nI u)]) (rest := []) S hK (c_X7_costOf l E o z w u hI hu) gX7_price_X7_costOf rfl hd_X7_costOf ⟨rfl, rfl⟩ ⟨Nat.le_of_ble_eq_true rfl, Nat.le_of_ble_eq_true rfl⟩ (k_recv hK hP.1 rfl) hP rfl hl.1 rfl (Nat.le_of_ble_eq_true rfl) dX7_price_33 ⟨Nat.le_of_ble_eq_true rfl, Nat.le_of_ble_eq_true rfl⟩ ?_
        refine lv_iload_n hx hb dX7_price_36 rfl (lv_at hl 0 rfl) ?_
        refine lv_imul hx hb dX7_price_37 ?_
        refine lv_bipush (v := nI 100) hx hb dX7_price_38 (by decide) ?_
        refine lv_idiv hx hb dX7_price_40 (by decide) ?_
        exact k_iret hx hb hr hlk dX7_price_41 (congrArg (fun x => cst z u * x / nI 100) (show prt g = _ from (iF_f c1).trans ((iF_f c11).trans (iF_t c21))))
    · refine lv_bipush (v := nI 70) hx hb dX7_price_14 (by decide) ?_
      refine lv_goto (tgt := 30) hx hb dX7_price_16 (by decide) ?_
      refine lv_istore_n (lv' := [(3, .int (nI 70)), (0, .ref o), (1, .int (nI u)), (2, .int g)]) hx hb dX7_price_30 rfl hl (by decide) rfl (fun ls hl => ?_)
      refine lv_aload_n hx hb dX7_price_31 rfl (lv_at hl 1 rfl) ?_
      refine lv_iload_n hx hb dX7_price_32 rfl (lv_at hl 2 rfl) ?_
      refine k_V (As := [.int (nI u)]) (rest := []) S hK (c_X7_costOf l E o z w u hI hu) gX7_price_X7_costOf rfl hd_X7_costOf ⟨rfl, rfl⟩ ⟨Nat.le_of_ble_eq_true rfl, Nat.le_of_ble_eq_true rfl⟩ (k_recv hK hP.1 rfl) hP rfl hl.1 rfl (Nat.le_of_ble_eq_true rfl) dX7_price_33 ⟨Nat.le_of_ble_eq_true rfl, Nat.le_of_ble_eq_true rfl⟩ ?_
      refine lv_iload_n hx hb dX7_price_36 rfl (lv_at hl 0 rfl) ?_
      refine lv_imul hx hb dX7_price_37 ?_
      refine lv_bipush (v := nI 100) hx hb dX7_price_38 (by decide) ?_
      refine lv_idiv hx hb dX7_price_40 (by decide) ?_
      exact k_iret hx hb hr hlk dX7_price_41 (congrArg (fun x => cst z u * x / nI 100) (show prt g = _ from (iF_f c1).trans (iF_t c11)))
  · refine lv_bipush (v := nI 90) hx hb dX7_price_4 (by decide) ?_
    refine lv_goto (tgt := 30) hx hb dX7_price_6 (by decide) ?_
    refine lv_istore_n (lv' := [(3, .int (nI 90)), (0, .ref o), (1, .int (nI u)), (2, .int g)]) hx hb dX7_price_30 rfl hl (by decide) rfl (fun ls hl => ?_)
    refine lv_aload_n hx hb dX7_price_31 rfl (lv_at hl 1 rfl) ?_
    refine lv_iload_n hx hb dX7_price_32 rfl (lv_at hl 2 rfl) ?_
    refine k_V (As := [.int (nI u)]) (rest := []) S hK (c_X7_costOf l E o z w u hI hu) gX7_price_X7_costOf rfl hd_X7_costOf ⟨rfl, rfl⟩ ⟨Nat.le_of_ble_eq_true rfl, Nat.le_of_ble_eq_true rfl⟩ (k_recv hK hP.1 rfl) hP rfl hl.1 rfl (Nat.le_of_ble_eq_true rfl) dX7_price_33 ⟨Nat.le_of_ble_eq_true rfl, Nat.le_of_ble_eq_true rfl⟩ ?_
    refine lv_iload_n hx hb dX7_price_36 rfl (lv_at hl 0 rfl) ?_
    refine lv_imul hx hb dX7_price_37 ?_
    refine lv_bipush (v := nI 100) hx hb dX7_price_38 (by decide) ?_
    refine lv_idiv hx hb dX7_price_40 (by decide) ?_
    exact k_iret hx hb hr hlk dX7_price_41 (congrArg (fun x => cst z u * x / nI 100) (show prt g = _ from iF_t c1))
def rm_X7_heldMany : Room := { frames := 2, cells := 0, slots := 0, locals := 41 }
theorem hd_X7_heldMany : k_hd1 yX7_heldMany RX7 0 := by decide +kernel
set_option maxHeartbeats 4000000 in
set_option maxRecDepth 100000 in
theorem c_X7_heldMany (l : Launch) (E : ke_E) (o : Nat) (z : Nat → Int32) (w : md_w) (hI : iv z) : Met l yX7_heldMany wsX7_heldMany rm_X7_heldMany (kp E [.ref o] (md E o z w)) (qp (some (.int (hlN z (cn z))))) 0 0 nof := by
  refine k_hd (cc := cX7_heldMany) (maxL := 3) (ret := (some .int)) (by decide) rfl (Nat.le_of_ble_eq_true rfl) ?_
  intro p e s m below meth c ls S hr hlk hnm hK hP hl
  have hx := S.1
  have hb := S.2.1
  have hts := S.2.2.2.2
  have hP : md E o z w s.heap := hP
  have hl : lv_has ls 3 [(0, .ref o)] := hl
  have hcn := iv_c hI
  have J4 : ∀ (n_ : Nat), ∀ (i : Nat), i ≤ cn z → cn z < i + n_ → ∀ (ls : Array Slot), lv_has ls 3 [(0, .ref o), (1, .int (hlN z i)), (2, .int (nI i))] → W p l e (headSpec wsX7_heldMany rm_X7_heldMany).room s m ([.ref o] : List Value).toArray below meth c s.heap [] 0 0 (MQ below (qp (some (.int (hlN z (cn z))))) ([.ref o] : List Value).toArray s 0 0 nof) (F0 m 4 ls []) := by
    intro n_
    induction n_ with
    | zero =>
      intro i hi hn_ _ _
      exact absurd hn_ (by omega)
    | succ n_ ih =>
      intro i hi hn_ ls hl
      refine lv_iload_n hx hb dX7_heldMany_4 rfl (lv_at hl 2 rfl) ?_
      refine lv_aload_n hx hb dX7_heldMany_5 rfl (lv_at hl 0 rfl) ?_
      refine k_get S hK hP.1 rfl (fun _ h => List.mem_cons_of_mem _ (List.mem_append_right _ (h))) 0 (by decide) (List.mem_cons_of_mem _ (List.mem_append_left _ (List.mem_of_getElem? (i := 0) rfl))) rfl (v := .ref (o + 1)) rfl dX7_heldMany_6 ?_
      refine lv_iconst (v := nI 0) hx hb dX7_heldMany_9 (by decide) ?_
      refine k_iald hx hb hK hP.2.1 (by omega) (by decide) (v := nI (cn z)) (iv_n hI) dX7_heldMany_10 ?_
      refine n_ige (tgt := 36) hx hb dX7_heldMany_11 (by decide) (by omega) (by omega) (fun c11 => ?_) (fun c11 => ?_)
      · refine lv_iload_n hx hb dX7_heldMany_36 rfl (lv_at hl 1 rfl) ?_
        exact k_iret hx hb hr hlk dX7_heldMany_37 (by rw [show i = cn z by omega])
      · refine lv_iload_n hx hb dX7_heldMany_14 rfl (lv_at hl 1 rfl) ?_
        refine lv_aload_n hx hb dX7_heldMany_15 rfl (lv_at hl 0 rfl) ?_
        refine lv_iload_n hx hb dX7_heldMany_16 rfl (lv_at hl 2 rfl) ?_
        refine k_V (As := [.int (nI i)]) (rest := [.int (hlN z i)]) S hK (c_X7_isHeld l E o z w i hI c11) gX7_heldMany_X7_isHeld rfl hd_X7_isHeld ⟨rfl, rfl⟩ ⟨Nat.le_of_ble_eq_true rfl, Nat.le_of_ble_eq_true rfl⟩ (k_recv hK hP.1 rfl) hP rfl hl.1 rfl (Nat.le_of_ble_eq_true rfl) dX7_heldMany_17 ⟨Nat.le_of_ble_eq_true rfl, Nat.le_of_ble_eq_true rfl⟩ ?_
        refine b_eq (tgt := 27) hx hb dX7_heldMany_20 (by decide) (fun c20 => ?_) (fun c20 => ?_)
        · refine lv_iconst (v := nI 0) hx hb dX7_heldMany_27 (by decide) ?_
          refine lv_iadd hx hb dX7_heldMany_28 ?_
          refine lv_istore_n (lv' := [(1, .int ((hlN z i) + (nI 0))), (0, .ref o), (2, .int (nI i))]) hx hb dX7_heldMany_29 rfl hl (by decide) rfl (fun ls hl => ?_)
          refine lv_iinc (v := nI (i + 1)) (lv' := [(2, .int (nI (i + 1))), (1, .int ((hlN z i) + (nI 0))), (0, .ref o)]) hx hb dX7_heldMany_30 hl (k := 2) rfl (inc_1 _) (by decide) rfl (fun ls hl => ?_)
          refine lv_goto (tgt := 4) hx hb dX7_heldMany_33 (by decide) ?_
          have hl : lv_has ls 3 [(0, .ref o), (1, .int (hlN z (i + 1))), (2, .int (nI (i + 1)))] := by
            have h9 := lv_sub (l' := [(0, .ref o), (1, .int ((hlN z i) + (nI 0))), (2, .int (nI (i + 1)))]) hl [2, 1, 0] rfl
            rw [show (.int (hlN z (i + 1)) : Value) = .int ((hlN z i) + (nI 0)) from congrArg Value.int (congrArg (fun x => hlN z i + x) (bI_f c20))]
            exact h9
          exact ih (i + 1) (by omega) (by omega) _ hl
        · refine lv_iconst (v := nI 1) hx hb dX7_heldMany_23 (by decide) ?_
          refine lv_goto (tgt := 28) hx hb dX7_heldMany_24 (by decide) ?_
          refine lv_iadd hx hb dX7_heldMany_28 ?_
          refine lv_istore_n (lv' := [(1, .int ((hlN z i) + (nI 1))), (0, .ref o), (2, .int (nI i))]) hx hb dX7_heldMany_29 rfl hl (by decide) rfl (fun ls hl => ?_)
          refine lv_iinc (v := nI (i + 1)) (lv' := [(2, .int (nI (i + 1))), (1, .int ((hlN z i) + (nI 1))), (0, .ref o)]) hx hb dX7_heldMany_30 hl (k := 2) rfl (inc_1 _) (by decide) rfl (fun ls hl => ?_)
          refine lv_goto (tgt := 4) hx hb dX7_heldMany_33 (by decide) ?_
          have hl : lv_has ls 3 [(0, .ref o), (1, .int (hlN z (i + 1))), (2, .int (nI (i + 1)))] := by
            have h9 := lv_sub (l' := [(0, .ref o), (1, .int ((hlN z i) + (nI 1))), (2, .int (nI (i + 1)))]) hl [2, 1, 0] rfl
            rw [show (.int (hlN z (i + 1)) : Value) = .int ((hlN z i) + (nI 1)) from congrArg Value.int (congrArg (fun x => hlN z i + x) (bI_t c20))]
            exact h9
          exact ih (i + 1) (by omega) (by omega) _ hl
  refine lv_iconst (v := nI 0) hx hb dX7_heldMany_0 (by decide) ?_
  refine lv_istore_n (lv' := [(1, .int (nI 0)), (0, .ref o)]) hx hb dX7_heldMany_1 rfl hl (by decide) rfl (fun ls hl => ?_)
  refine lv_iconst (v := nI 0) hx hb dX7_heldMany_2 (by decide) ?_
  refine lv_istore_n (lv' := [(2, .int (nI 0)), (1, .int (nI 0)), (0, .ref o)]) hx hb dX7_heldMany_3 rfl hl (by decide) rfl (fun ls hl => ?_)
  have hl : lv_has ls 3 [(0, .ref o), (1, .int (hlN z 0)), (2, .int (nI 0))] := by
    have h9 := lv_sub (l' := [(0, .ref o), (1, .int (nI 0)), (2, .int (nI 0))]) hl [2, 1, 0] rfl
    rw [show (.int (hlN z 0) : Value) = .int (nI 0) from congrArg Value.int rfl]
    exact h9
  exact J4 (cn z + 1) 0 (by omega) (by omega) _ hl
