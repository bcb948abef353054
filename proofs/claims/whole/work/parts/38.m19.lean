/-! ===== the class's public changes ===== -/
theorem dsj1 {o : Nat} : o + 1 + 59 ≤ o + 119 ∨ o + 119 + 356 ≤ o + 1 := Or.inl (by omega)
def rm_X6_product : Room := { frames := 4, cells := 0, slots := 0, locals := 86 }
theorem hd_X6_product : k_hd1 yX6_product RX6 3 := by decide +kernel
set_option maxHeartbeats 4000000 in
set_option maxRecDepth 100000 in
theorem c_X6_product (l : Launch) (E : ke_E) (o : Nat) (z : Nat → Int32) (sn : Nat) (r : Nat → Int32) (bn : Nat) (f : Nat → Int32) (q : Nat) (y : Int32) (v : Nat) (hI : iv z) (hn6 : sn ≤ 6) (hq6 : q < 6) (hv4 : v < 4) (h1 : nI 1 ≤ y ∧ y ≤ nI 9999) : Met l yX6_product wsX6_product rm_X6_product (kp E [.ref o, .int (nI q), .int y, .int (nI v)] (fun H => gg E o H ∧ dz E (o + 1) z H ∧ tr E (o + 60) H ∧ hy E (o + 119) sn r H ∧ bo E (o + 475) bn (auE (au f bn)) (auS (au f bn)) f H)) (qm (some (.int (z (3*q + 12)))) (bl o 477) (fun H => gg E o H ∧ dz E (o + 1) (pdZ z q y v) H ∧ tr E (o + 60) H ∧ hy E (o + 119) (svN sn) (svR r z sn) H ∧ bo E (o + 475) bn (auE (au f bn)) (auS (au f bn)) f H)) 0 0 (bl o 477) := by
  refine k_hd (cc := cX6_product) (maxL := 6) (ret := (some .int)) (by decide) rfl (Nat.le_of_ble_eq_true rfl) ?_
  intro p e s m below meth c ls S hr hlk hnm hK hP hl
  have hx := S.1
  have hb := S.2.1
  have hts := S.2.2.2.2
  obtain ⟨hP0, hP1, hP2, hP3, hP4⟩ := hP
  have hl : lv_has ls 6 [(0, .ref o), (1, .int (nI q)), (2, .int y), (3, .int (nI v))] := hl
  have hS : va_S (bl o 477) s.heap s.heap [] := va_S.rf
  have hc20 := iv_c hI
  refine lv_aload_n hx hb dX6_product_0 rfl (lv_at hl 0 rfl) ?_
  refine lv_iload_n hx hb dX6_product_1 rfl (lv_at hl 1 rfl) ?_
  refine k_V (As := [.int (nI q)]) (rest := []) S hK (c_X6_productNumbered l E o z q hI hq6) gX6_product_X6_productNumbered rfl hd_X6_productNumbered ⟨rfl, rfl⟩ ⟨Nat.le_of_ble_eq_true rfl, Nat.le_of_ble_eq_true rfl⟩ (k_recv hK hP0 rfl) ⟨hP0, hP1⟩ rfl hl.1 rfl (Nat.le_of_ble_eq_true rfl) dX6_product_2 ⟨Nat.le_of_ble_eq_true rfl, Nat.le_of_ble_eq_true rfl⟩ ?_
  refine lv_astore (lv' := [(4, .ref (o + 1 + q + 5)), (0, .ref o), (1, .int (nI q)), (2, .int y), (3, .int (nI v))]) hx hb dX6_product_5 hl (by decide) rfl (fun ls hl => ?_)
  refine lv_aload_n hx hb dX6_product_7 rfl (lv_at hl 1 rfl) ?_
  refine lv_iload_n hx hb dX6_product_8 rfl (lv_at hl 4 rfl) ?_
  refine k_V (As := [.int (nI v)]) (rest := []) S hK (c_X6_vendorNumbered l E o z v hI hv4) gX6_product_X6_vendorNumbered rfl hd_X6_vendorNumbered ⟨rfl, rfl⟩ ⟨Nat.le_of_ble_eq_true rfl, Nat.le_of_ble_eq_true rfl⟩ (k_recv hK hP0 rfl) ⟨hP0, hP1⟩ rfl hl.1 rfl (Nat.le_of_ble_eq_true rfl) dX6_product_9 ⟨Nat.le_of_ble_eq_true rfl, Nat.le_of_ble_eq_true rfl⟩ ?_
  refine lv_pop hx hb dX6_product_12 rfl ?_
  refine lv_iload_n hx hb dX6_product_13 rfl (lv_at hl 3 rfl) ?_
  refine lv_iconst (v := nI 1) hx hb dX6_product_14 (by decide) ?_
  refine lv_sipush (v := nI 9999) hx hb dX6_product_15 (by decide) ?_
  refine k_S (As := [.int y, .int (nI 1), .int (nI 9999)]) (rest := []) S hK (c_X6_requireRange l E 1 9999 y h1) gX6_product_X6_requireRange rfl hd_X6_requireRange ⟨rfl, rfl⟩ ⟨Nat.le_of_ble_eq_true rfl, Nat.le_of_ble_eq_true rfl⟩ trivial rfl hl.1 rfl (Nat.le_of_ble_eq_true rfl) dX6_product_18 ⟨Nat.le_of_ble_eq_true rfl, Nat.le_of_ble_eq_true rfl⟩ ?_
  refine lv_aload_n hx hb dX6_product_21 rfl (lv_at hl 1 rfl) ?_
  refine k_get S hK hP0 rfl (fun _ h => List.mem_cons_of_mem _ (List.mem_append_left _ (List.mem_append_left _ (List.mem_append_left _ (List.mem_append_left _ (List.mem_append_left _ (List.mem_append_left _ (List.mem_append_left _ (List.mem_append_right _ (h)))))))))) 2 (by decide) (List.mem_cons_of_mem _ (List.mem_append_left _ (List.mem_append_left _ (List.mem_append_left _ (List.mem_append_left _ (List.mem_append_left _ (List.mem_append_left _ (List.mem_append_left _ (List.mem_append_left _ (List.mem_append_left _ (List.mem_of_getElem? (i := 0) rfl))))))))))) rfl (v := .ref (o + 119)) rfl dX6_product_22 ?_
  refine lv_aload_n hx hb dX6_product_25 rfl (lv_at hl 1 rfl) ?_
  refine k_get S hK hP0 rfl (fun _ h => List.mem_cons_of_mem _ (List.mem_append_left _ (List.mem_append_left _ (List.mem_append_left _ (List.mem_append_left _ (List.mem_append_left _ (List.mem_append_left _ (List.mem_append_left _ (List.mem_append_right _ (h)))))))))) 0 (by decide) (List.mem_cons_of_mem _ (List.mem_append_left _ (List.mem_append_left _ (List.mem_append_left _ (List.mem_append_left _ (List.mem_append_left _ (List.mem_append_left _ (List.mem_append_left _ (List.mem_append_left _ (List.mem_append_left _ (List.mem_of_getElem? (i := 1) rfl))))))))))) rfl (v := .ref (o + 1)) rfl dX6_product_26 ?_
  refine k_VM (As := [.ref (o + 1)]) (rest := []) S hK (c_X2_save l E (o + 119) sn r (o + 1) z (by omega) hI hn6) gX6_product_X2_save rfl hd_X2_save ⟨rfl, rfl⟩ ⟨Nat.le_of_ble_eq_true rfl, Nat.le_of_ble_eq_true rfl⟩ (k_recv hK (hy_at hP3) rfl) ⟨hP3, hP1⟩ rfl hl.1 rfl (Nat.le_of_ble_eq_true rfl) dX6_product_29 ⟨Nat.le_of_ble_eq_true rfl, Nat.le_of_ble_eq_true rfl⟩ hS (fun q h => by exact ⟨by have := h.1; omega, by have := h.2; omega⟩) (fun q h => by exact ⟨by have := h.1; omega, by have := h.2; omega⟩) (fun H locs hQ zH fH hS => ?_)
  have hP := hQ
  have hV1 := hP
  have hk0 := bo_fr2 hP4 (fun q hz hq => fH q hz (bl_ne hq (by omega)))
  have hk1 := gg_fr2 hP0 (fun q hz hq => fH q hz (bl_ne hq (by omega)))
  have hk2 := dz_fr2 hP1 (fun q hz hq => fH q hz (bl_ne hq (by omega)))
  have hk3 := tr_fr2 hP2 (fun q hz hq => fH q hz (bl_ne hq (by omega)))
  refine lv_aload hx hb dX6_product_32 (lv_at hl 0 rfl) ?_
  refine k_get S hK (dz_p hk2 q hq6) rfl (fun _ h => List.mem_cons_of_mem _ (List.mem_append_left _ (List.mem_append_left _ (List.mem_append_left _ (List.mem_append_left _ (List.mem_append_left _ (List.mem_append_left _ (List.mem_append_right _ (h))))))))) 0 (by decide) (List.mem_cons_of_mem _ (List.mem_append_left _ (List.mem_append_left _ (List.mem_append_left _ (List.mem_append_left _ (List.mem_append_left _ (List.mem_append_left _ (List.mem_append_left _ (List.mem_append_left _ (List.mem_append_left _ (List.mem_of_getElem? (i := 2) rfl))))))))))) rfl (v := .int (z (3*q + 12))) rfl dX6_product_34 ?_
  refine lv_istore (lv' := [(5, .int (z (3*q + 12))), (4, .ref (o + 1 + q + 5)), (0, .ref o), (1, .int (nI q)), (2, .int y), (3, .int (nI v))]) hx hb dX6_product_37 hl (by decide) rfl (fun ls hl => ?_)
  refine lv_aload hx hb dX6_product_39 (lv_at hl 1 rfl) ?_
  refine lv_iload_n hx hb dX6_product_41 rfl (lv_at hl 4 rfl) ?_
  refine dz_putP hq6 S hK hk2 (fun _ h => List.mem_cons_of_mem _ (List.mem_append_left _ (List.mem_append_left _ (List.mem_append_left _ (List.mem_append_left _ (List.mem_append_left _ (List.mem_append_left _ (List.mem_append_right _ (h))))))))) 0 (by decide) (List.mem_cons_of_mem _ (List.mem_append_left _ (List.mem_append_left _ (List.mem_append_left _ (List.mem_append_left _ (List.mem_append_left _ (List.mem_append_left _ (List.mem_append_left _ (List.mem_append_left _ (List.mem_append_left _ (List.mem_of_getElem? (i := 2) rfl))))))))))) rfl rfl rfl rfl (j := 12) (fun z9 => by simp [pr_F, upd]) (by decide) hS (fun q h => bl_sub h (by omega)) dX6_product_42 (fun H locs hP zH fH hS => ?_)
  have hV2 := hP
  have hk0 := bo_fr2 hk0 (fun q _ hq => fH q (bl_ne hq (by omega)))
  have hk1 := gg_fr2 hk1 (fun q _ hq => fH q (bl_ne hq (by omega)))
  have hk3 := tr_fr2 hk3 (fun q _ hq => fH q (bl_ne hq (by omega)))
  have hk4 := hy_fr2 hV1 (fun q _ hq => fH q (bl_ne hq (by omega)))
  refine lv_aload hx hb dX6_product_45 (lv_at hl 1 rfl) ?_
  refine lv_iload_n hx hb dX6_product_47 rfl (lv_at hl 5 rfl) ?_
  refine dz_putP hq6 S hK hV2 (fun _ h => List.mem_cons_of_mem _ (List.mem_append_left _ (List.mem_append_left _ (List.mem_append_left _ (List.mem_append_left _ (List.mem_append_left _ (List.mem_append_left _ (List.mem_append_right _ (h))))))))) 1 (by decide) (List.mem_cons_of_mem _ (List.mem_append_left _ (List.mem_append_left _ (List.mem_append_left _ (List.mem_append_left _ (List.mem_append_left _ (List.mem_append_left _ (List.mem_append_left _ (List.mem_append_left _ (List.mem_append_left _ (List.mem_of_getElem? (i := 3) rfl))))))))))) rfl rfl rfl rfl (j := 13) (fun z9 => by simp [pr_F, upd]) (by decide) hS (fun q h => bl_sub h (by omega)) dX6_product_48 (fun H locs hP zH fH hS => ?_)
  have hV3 := hP
  have hk0 := bo_fr2 hk0 (fun q _ hq => fH q (bl_ne hq (by omega)))
  have hk1 := gg_fr2 hk1 (fun q _ hq => fH q (bl_ne hq (by omega)))
  have hk3 := tr_fr2 hk3 (fun q _ hq => fH q (bl_ne hq (by omega)))
  have hk4 := hy_fr2 hk4 (fun q _ hq => fH q (bl_ne hq (by omega)))
  refine lv_iload hx hb dX6_product_51 (lv_at hl 0 rfl) ?_
  exact k_iretM hx hb hr hlk dX6_product_53 hS ⟨hk1, (show dz E (o + 1) (pdZ z q y v) _ from hV3), hk3, hk4, hk0⟩ (rfl)
def rm_X6_recall_0 : Room := { frames := 4, cells := 0, slots := 0, locals := 86 }
theorem hd_X6_recall : k_hd1 yX6_recall RX6 2 := by decide +kernel
set_option maxHeartbeats 4000000 in
set_option maxRecDepth 100000 in
theorem c_X6_recall_0 (l : Launch) (E : ke_E) (o : Nat) (z : Nat → Int32) (sn : Nat) (r : Nat → Int32) (bn : Nat) (f : Nat → Int32) (q : Nat) (hI : iv z) (hn6 : sn ≤ 6) (hq6 : q < 6) : Met l yX6_recall wsX6_recall rm_X6_recall_0 (kp E [.ref o, .int (nI q), .int (nI 0)] (fun H => gg E o H ∧ dz E (o + 1) z H ∧ tr E (o + 60) H ∧ hy E (o + 119) sn r H ∧ bo E (o + 475) bn (auE (au f bn)) (auS (au f bn)) f H)) (qm (some (.int (hlN (rcZ z q 0) (cn z)))) (bl o 477) (fun H => gg E o H ∧ dz E (o + 1) (rcZ z q 0) H ∧ tr E (o + 60) H ∧ hy E (o + 119) (svN sn) (svR r z sn) H ∧ bo E (o + 475) bn (auE (au f bn)) (auS (au f bn)) f H)) 0 0 (bl o 477) := by
  refine k_hd (cc := cX6_recall) (maxL := 4) (ret := (some .int)) (by decide) rfl (Nat.le_of_ble_eq_true rfl) ?_
  intro p e s m below meth c ls S hr hlk hnm hK hP hl
  have hx := S.1
  have hb := S.2.1
  have hts := S.2.2.2.2
  obtain ⟨hP0, hP1, hP2, hP3, hP4⟩ := hP
  have hl : lv_has ls 4 [(0, .ref o), (1, .int (nI q)), (2, .int (nI 0))] := hl
  have hS : va_S (bl o 477) s.heap s.heap [] := va_S.rf
  have hc20 := iv_c hI
  refine lv_aload_n hx hb dX6_recall_0 rfl (lv_at hl 0 rfl) ?_
  refine lv_iload_n hx hb dX6_recall_1 rfl (lv_at hl 1 rfl) ?_
  refine k_V (As := [.int (nI q)]) (rest := []) S hK (c_X6_productNumbered l E o z q hI hq6) gX6_recall_X6_productNumbered rfl hd_X6_productNumbered ⟨rfl, rfl⟩ ⟨Nat.le_of_ble_eq_true rfl, Nat.le_of_ble_eq_true rfl⟩ (k_recv hK hP0 rfl) ⟨hP0, hP1⟩ rfl hl.1 rfl (Nat.le_of_ble_eq_true rfl) dX6_recall_2 ⟨Nat.le_of_ble_eq_true rfl, Nat.le_of_ble_eq_true rfl⟩ ?_
  refine lv_astore_n (lv' := [(3, .ref (o + 1 + q + 5)), (0, .ref o), (1, .int (nI q)), (2, .int (nI 0))]) hx hb dX6_recall_5 rfl hl (by decide) rfl (fun ls hl => ?_)
  refine lv_aload_n hx hb dX6_recall_6 rfl (lv_at hl 1 rfl) ?_
  refine k_get S hK hP0 rfl (fun _ h => List.mem_cons_of_mem _ (List.mem_append_left _ (List.mem_append_left _ (List.mem_append_left _ (List.mem_append_left _ (List.mem_append_left _ (List.mem_append_left _ (List.mem_append_right _ (h))))))))) 2 (by decide) (List.mem_cons_of_mem _ (List.mem_append_left _ (List.mem_append_left _ (List.mem_append_left _ (List.mem_append_left _ (List.mem_append_left _ (List.mem_append_left _ (List.mem_append_left _ (List.mem_append_left _ (List.mem_of_getElem? (i := 0) rfl)))))))))) rfl (v := .ref (o + 119)) rfl dX6_recall_7 ?_
  refine lv_aload_n hx hb dX6_recall_10 rfl (lv_at hl 1 rfl) ?_
  refine k_get S hK hP0 rfl (fun _ h => List.mem_cons_of_mem _ (List.mem_append_left _ (List.mem_append_left _ (List.mem_append_left _ (List.mem_append_left _ (List.mem_append_left _ (List.mem_append_left _ (List.mem_append_right _ (h))))))))) 0 (by decide) (List.mem_cons_of_mem _ (List.mem_append_left _ (List.mem_append_left _ (List.mem_append_left _ (List.mem_append_left _ (List.mem_append_left _ (List.mem_append_left _ (List.mem_append_left _ (List.mem_append_left _ (List.mem_of_getElem? (i := 1) rfl)))))))))) rfl (v := .ref (o + 1)) rfl dX6_recall_11 ?_
  refine k_VM (As := [.ref (o + 1)]) (rest := []) S hK (c_X2_save l E (o + 119) sn r (o + 1) z (by omega) hI hn6) gX6_recall_X2_save rfl hd_X2_save ⟨rfl, rfl⟩ ⟨Nat.le_of_ble_eq_true rfl, Nat.le_of_ble_eq_true rfl⟩ (k_recv hK (hy_at hP3) rfl) ⟨hP3, hP1⟩ rfl hl.1 rfl (Nat.le_of_ble_eq_true rfl) dX6_recall_14 ⟨Nat.le_of_ble_eq_true rfl, Nat.le_of_ble_eq_true rfl⟩ hS (fun q h => by exact ⟨by have := h.1; omega, by have := h.2; omega⟩) (fun q h => by exact ⟨by have := h.1; omega, by have := h.2; omega⟩) (fun H locs hQ zH fH hS => ?_)
  have hP := hQ
  have hV1 := hP
  have hk0 := bo_fr2 hP4 (fun q hz hq => fH q hz (bl_ne hq (by omega)))
  have hk1 := gg_fr2 hP0 (fun q hz hq => fH q hz (bl_ne hq (by omega)))
  have hk2 := dz_fr2 hP1 (fun q hz hq => fH q hz (bl_ne hq (by omega)))
  have hk3 := tr_fr2 hP2 (fun q hz hq => fH q hz (bl_ne hq (by omega)))
  refine lv_aload_n hx hb dX6_recall_17 rfl (lv_at hl 0 rfl) ?_
  refine lv_iload_n hx hb dX6_recall_18 rfl (lv_at hl 3 rfl) ?_
  refine dz_putP hq6 S hK hk2 (fun _ h => List.mem_cons_of_mem _ (List.mem_append_left _ (List.mem_append_left _ (List.mem_append_left _ (List.mem_append_left _ (List.mem_append_left _ (List.mem_append_right _ (h)))))))) 2 (by decide) (List.mem_cons_of_mem _ (List.mem_append_left _ (List.mem_append_left _ (List.mem_append_left _ (List.mem_append_left _ (List.mem_append_left _ (List.mem_append_left _ (List.mem_append_left _ (List.mem_append_left _ (List.mem_of_getElem? (i := 2) rfl)))))))))) rfl rfl rfl rfl (j := 14) (fun z9 => by simp [pr_F, upd]) (by decide) hS (fun q h => bl_sub h (by omega)) dX6_recall_19 (fun H locs hP zH fH hS => ?_)
  have hV2 := hP
  have hk0 := bo_fr2 hk0 (fun q _ hq => fH q (bl_ne hq (by omega)))
  have hk1 := gg_fr2 hk1 (fun q _ hq => fH q (bl_ne hq (by omega)))
  have hk3 := tr_fr2 hk3 (fun q _ hq => fH q (bl_ne hq (by omega)))
  have hk4 := hy_fr2 hV1 (fun q _ hq => fH q (bl_ne hq (by omega)))
  refine lv_aload_n hx hb dX6_recall_22 rfl (lv_at hl 1 rfl) ?_
  refine k_get S hK hk1 rfl (fun _ h => List.mem_cons_of_mem _ (List.mem_append_left _ (List.mem_append_left _ (List.mem_append_left _ (List.mem_append_left _ (List.mem_append_left _ (List.mem_append_left _ (List.mem_append_right _ (h))))))))) 0 (by decide) (List.mem_cons_of_mem _ (List.mem_append_left _ (List.mem_append_left _ (List.mem_append_left _ (List.mem_append_left _ (List.mem_append_left _ (List.mem_append_left _ (List.mem_append_left _ (List.mem_append_left _ (List.mem_of_getElem? (i := 1) rfl)))))))))) rfl (v := .ref (o + 1)) rfl dX6_recall_23 ?_
  refine k_V (As := []) (rest := []) S hK (c_X1_heldUnits l E (o + 1) (upd z (3*q + 14) (nI 0)) (show iv (rcZ z q 0) from iv_rc9 hI hq6 (by omega))) gX6_recall_X1_heldUnits rfl hd_X1_heldUnits ⟨rfl, rfl⟩ ⟨Nat.le_of_ble_eq_true rfl, Nat.le_of_ble_eq_true rfl⟩ (k_recv hK (dz_d hV2) rfl) hV2 rfl hl.1 rfl (Nat.le_of_ble_eq_true rfl) dX6_recall_26 ⟨Nat.le_of_ble_eq_true rfl, Nat.le_of_ble_eq_true rfl⟩ ?_
  exact k_iretM hx hb hr hlk dX6_recall_29 hS ⟨hk1, (show dz E (o + 1) (rcZ z q 0) _ from hV2), hk3, hk4, hk0⟩ (by show hlN (rcZ z q 0) (cn z) = hlN (rcZ z q 0) (cn (rcZ z q 0)); rw [show cn (rcZ z q 0) = cn z from cn_u (by omega)])
def rm_X6_recall_1 : Room := { frames := 4, cells := 0, slots := 0, locals := 86 }
set_option maxHeartbeats 4000000 in
set_option maxRecDepth 100000 in
theorem c_X6_recall_1 (l : Launch) (E : ke_E) (o : Nat) (z : Nat → Int32) (sn : Nat) (r : Nat → Int32) (bn : Nat) (f : Nat → Int32) (q : Nat) (hI : iv z) (hn6 : sn ≤ 6) (hq6 : q < 6) : Met l yX6_recall wsX6_recall rm_X6_recall_1 (kp E [.ref o, .int (nI q), .int (nI 1)] (fun H => gg E o H ∧ dz E (o + 1) z H ∧ tr E (o + 60) H ∧ hy E (o + 119) sn r H ∧ bo E (o + 475) bn (auE (au f bn)) (auS (au f bn)) f H)) (qm (some (.int (hlN (rcZ z q 1) (cn z)))) (bl o 477) (fun H => gg E o H ∧ dz E (o + 1) (rcZ z q 1) H ∧ tr E (o + 60) H ∧ hy E (o + 119) (svN sn) (svR r z sn) H ∧ bo E (o + 475) bn (auE (au f bn)) (auS (au f bn)) f H)) 0 0 (bl o 477) := by
  refine k_hd (cc := cX6_recall) (maxL := 4) (ret := (some .int)) (by decide) rfl (Nat.le_of_ble_eq_true rfl) ?_
  intro p e s m below meth c ls S hr hlk hnm hK hP hl
  have hx := S.1
  have hb := S.2.1
  have hts := S.2.2.2.2
  obtain ⟨hP0, hP1, hP2, hP3, hP4⟩ := hP
  have hl : lv_has ls 4 [(0, .ref o), (1, .int (nI q)), (2, .int (nI 1))] := hl
  have hS : va_S (bl o 477) s.heap s.heap [] := va_S.rf
  have hc20 := iv_c hI
  refine lv_aload_n hx hb dX6_recall_0 rfl (lv_at hl 0 rfl) ?_
  refine lv_iload_n hx hb dX6_recall_1 rfl (lv_at hl 1 rfl) ?_
  refine k_V (As := [.int (nI q)]) (rest := []) S hK (c_X6_productNumbered l E o z q hI hq6) gX6_recall_X6_productNumbered rfl hd_X6_productNumbered ⟨rfl, rfl⟩ ⟨Nat.le_of_ble_eq_true rfl, Nat.le_of_ble_eq_true rfl⟩ (k_recv hK hP0 rfl) ⟨hP0, hP1⟩ rfl hl.1 rfl (Nat.le_of_ble_eq_true rfl) dX6_recall_2 ⟨Nat.le_of_ble_eq_true rfl, Nat.le_of_ble_eq_true rfl⟩ ?_
  refine lv_astore_n (lv' := [(3, .ref (o + 1 + q + 5)), (0, .ref o), (1, .int (nI q)), (2, .int (nI 1))]) hx hb dX6_recall_5 rfl hl (by decide) rfl (fun ls hl => ?_)
  refine lv_aload_n hx hb dX6_recall_6 rfl (lv_at hl 1 rfl) ?_
  refine k_get S hK hP0 rfl (fun _ h => List.mem_cons_of_mem _ (List.mem_append_left _ (List.mem_append_left _ (List.mem_append_left _ (List.mem_append_left _ (List.mem_append_left _ (List.mem_append_left _ (List.mem_append_right _ (h))))))))) 2 (by decide) (List.mem_cons_of_mem _ (List.mem_append_left _ (List.mem_append_left _ (List.mem_append_left _ (List.mem_append_left _ (List.mem_append_left _ (List.mem_append_left _ (List.mem_append_left _ (List.mem_append_left _ (List.mem_of_getElem? (i := 0) rfl)))))))))) rfl (v := .ref (o + 119)) rfl dX6_recall_7 ?_
  refine lv_aload_n hx hb dX6_recall_10 rfl (lv_at hl 1 rfl) ?_
  refine k_get S hK hP0 rfl (fun _ h => List.mem_cons_of_mem _ (List.mem_append_left _ (List.mem_append_left _ (List.mem_append_left _ (List.mem_append_left _ (List.mem_append_left _ (List.mem_append_left _ (List.mem_append_right _ (h))))))))) 0 (by decide) (List.mem_cons_of_mem _ (List.mem_append_left _ (List.mem_append_left _ (List.mem_append_left _ (List.mem_append_left _ (List.mem_append_left _ (List.mem_append_left _ (List.mem_append_left _ (List.mem_append_left _ (List.mem_of_getElem? (i := 1) rfl)))))))))) rfl (v := .ref (o + 1)) rfl dX6_recall_11 ?_
  refine k_VM (As := [.ref (o + 1)]) (rest := []) S hK (c_X2_save l E (o + 119) sn r (o + 1) z (by omega) hI hn6) gX6_recall_X2_save rfl hd_X2_save ⟨rfl, rfl⟩ ⟨Nat.le_of_ble_eq_true rfl, Nat.le_of_ble_eq_true rfl⟩ (k_recv hK (hy_at hP3) rfl) ⟨hP3, hP1⟩ rfl hl.1 rfl (Nat.le_of_ble_eq_true rfl) dX6_recall_14 ⟨Nat.le_of_ble_eq_true rfl, Nat.le_of_ble_eq_true rfl⟩ hS (fun q h => by exact ⟨by have := h.1; omega, by have := h.2; omega⟩) (fun q h => by exact ⟨by have := h.1; omega, by have := h.2; omega⟩) (fun H locs hQ zH fH hS => ?_)
  have hP := hQ
  have hV1 := hP
  have hk0 := bo_fr2 hP4 (fun q hz hq => fH q hz (bl_ne hq (by omega)))
  have hk1 := gg_fr2 hP0 (fun q hz hq => fH q hz (bl_ne hq (by omega)))
  have hk2 := dz_fr2 hP1 (fun q hz hq => fH q hz (bl_ne hq (by omega)))
  have hk3 := tr_fr2 hP2 (fun q hz hq => fH q hz (bl_ne hq (by omega)))
  refine lv_aload_n hx hb dX6_recall_17 rfl (lv_at hl 0 rfl) ?_
  refine lv_iload_n hx hb dX6_recall_18 rfl (lv_at hl 3 rfl) ?_
  refine dz_putP hq6 S hK hk2 (fun _ h => List.mem_cons_of_mem _ (List.mem_append_left _ (List.mem_append_left _ (List.mem_append_left _ (List.mem_append_left _ (List.mem_append_left _ (List.mem_append_right _ (h)))))))) 2 (by decide) (List.mem_cons_of_mem _ (List.mem_append_left _ (List.mem_append_left _ (List.mem_append_left _ (List.mem_append_left _ (List.mem_append_left _ (List.mem_append_left _ (List.mem_append_left _ (List.mem_append_left _ (List.mem_of_getElem? (i := 2) rfl)))))))))) rfl rfl rfl rfl (j := 14) (fun z9 => by simp [pr_F, upd]) (by decide) hS (fun q h => bl_sub h (by omega)) dX6_recall_19 (fun H locs hP zH fH hS => ?_)
  have hV2 := hP
  have hk0 := bo_fr2 hk0 (fun q _ hq => fH q (bl_ne hq (by omega)))
  have hk1 := gg_fr2 hk1 (fun q _ hq => fH q (bl_ne hq (by omega)))
  have hk3 := tr_fr2 hk3 (fun q _ hq => fH q (bl_ne hq (by omega)))
  have hk4 := hy_fr2 hV1 (fun q _ hq => fH q (bl_ne hq (by omega)))
  refine lv_aload_n hx hb dX6_recall_22 rfl (lv_at hl 1 rfl) ?_
  refine k_get S hK hk1 rfl (fun _ h => List.mem_cons_of_mem _ (List.mem_append_left _ (List.mem_append_left _ (List.mem_append_left _ (List.mem_append_left _ (List.mem_append_left _ (List.mem_append_left _ (List.mem_append_right _ (h))))))))) 0 (by decide) (List.mem_cons_of_mem _ (List.mem_append_left _ (List.mem_append_left _ (List.mem_append_left _ (List.mem_append_left _ (List.mem_append_left _ (List.mem_append_left _ (List.mem_append_left _ (List.mem_append_left _ (List.mem_of_getElem? (i := 1) rfl)))))))))) rfl (v := .ref (o + 1)) rfl dX6_recall_23 ?_
  refine k_V (As := []) (rest := []) S hK (c_X1_heldUnits l E (o + 1) (upd z (3*q + 14) (nI 1)) (show iv (rcZ z q 1) from iv_rc9 hI hq6 (by omega))) gX6_recall_X1_heldUnits rfl hd_X1_heldUnits ⟨rfl, rfl⟩ ⟨Nat.le_of_ble_eq_true rfl, Nat.le_of_ble_eq_true rfl⟩ (k_recv hK (dz_d hV2) rfl) hV2 rfl hl.1 rfl (Nat.le_of_ble_eq_true rfl) dX6_recall_26 ⟨Nat.le_of_ble_eq_true rfl, Nat.le_of_ble_eq_true rfl⟩ ?_
  exact k_iretM hx hb hr hlk dX6_recall_29 hS ⟨hk1, (show dz E (o + 1) (rcZ z q 1) _ from hV2), hk3, hk4, hk0⟩ (by show hlN (rcZ z q 1) (cn z) = hlN (rcZ z q 1) (cn (rcZ z q 1)); rw [show cn (rcZ z q 1) = cn z from cn_u (by omega)])
def rm_X6_agree : Room := { frames := 4, cells := 0, slots := 0, locals := 86 }
theorem hd_X6_agree : k_hd1 yX6_agree RX6 3 := by decide +kernel
set_option maxHeartbeats 4000000 in
set_option maxRecDepth 100000 in
theorem c_X6_agree (l : Launch) (E : ke_E) (o : Nat) (z : Nat → Int32) (sn : Nat) (r : Nat → Int32) (bn : Nat) (f : Nat → Int32) (v : Nat) (k : Nat) (y : Int32) (hI : iv z) (hn6 : sn ≤ 6) (hv4 : v < 4) (hq4 : k < 4) (h1 : nI 0 ≤ y ∧ y ≤ nI 100) : Met l yX6_agree wsX6_agree rm_X6_agree (kp E [.ref o, .int (nI v), .int (nI k), .int y] (fun H => gg E o H ∧ dz E (o + 1) z H ∧ tr E (o + 60) H ∧ hy E (o + 119) sn r H ∧ bo E (o + 475) bn (auE (au f bn)) (auS (au f bn)) f H)) (qm (some (.int (z (8*v + k + 34)))) (bl o 477) (fun H => gg E o H ∧ dz E (o + 1) (agZ z v k y) H ∧ tr E (o + 60) H ∧ hy E (o + 119) (svN sn) (svR r z sn) H ∧ bo E (o + 475) bn (auE (au f bn)) (auS (au f bn)) f H)) 0 0 (bl o 477) := by
  refine k_hd (cc := cX6_agree) (maxL := 6) (ret := (some .int)) (by decide) rfl (Nat.le_of_ble_eq_true rfl) ?_
  intro p e s m below meth c ls S hr hlk hnm hK hP hl
  have hx := S.1
  have hb := S.2.1
  have hts := S.2.2.2.2
  obtain ⟨hP0, hP1, hP2, hP3, hP4⟩ := hP
  have hl : lv_has ls 6 [(0, .ref o), (1, .int (nI v)), (2, .int (nI k)), (3, .int y)] := hl
  have hS : va_S (bl o 477) s.heap s.heap [] := va_S.rf
  have hc20 := iv_c hI
  refine lv_aload_n hx hb dX6_agree_0 rfl (lv_at hl 0 rfl) ?_
  refine lv_iload_n hx hb dX6_agree_1 rfl (lv_at hl 1 rfl) ?_
  refine k_V (As := [.int (nI v)]) (rest := []) S hK (c_X6_vendorNumbered l E o z v hI hv4) gX6_agree_X6_vendorNumbered rfl hd_X6_vendorNumbered ⟨rfl, rfl⟩ ⟨Nat.le_of_ble_eq_true rfl, Nat.le_of_ble_eq_true rfl⟩ (k_recv hK hP0 rfl) ⟨hP0, hP1⟩ rfl hl.1 rfl (Nat.le_of_ble_eq_true rfl) dX6_agree_2 ⟨Nat.le_of_ble_eq_true rfl, Nat.le_of_ble_eq_true rfl⟩ ?_
  refine lv_astore (lv' := [(4, .ref (o + 1 + 2*v + 11)), (0, .ref o), (1, .int (nI v)), (2, .int (nI k)), (3, .int y)]) hx hb dX6_agree_5 hl (by decide) rfl (fun ls hl => ?_)
  refine lv_iload_n hx hb dX6_agree_7 rfl (lv_at hl 3 rfl) ?_
  refine lv_aload hx hb dX6_agree_8 (lv_at hl 0 rfl) ?_
  refine k_get S hK (dz_v hP1 v hv4) rfl (fun _ h => List.mem_cons_of_mem _ (List.mem_append_left _ (List.mem_append_left _ (List.mem_append_left _ (List.mem_append_left _ (List.mem_append_left _ (List.mem_append_left _ (List.mem_append_left _ (List.mem_append_right _ (h)))))))))) 0 (by decide) (List.mem_cons_of_mem _ (List.mem_append_left _ (List.mem_append_left _ (List.mem_append_left _ (List.mem_append_left _ (List.mem_append_left _ (List.mem_append_left _ (List.mem_append_left _ (List.mem_append_left _ (List.mem_append_left _ (List.mem_of_getElem? (i := 2) rfl))))))))))) rfl (v := .ref (o + 1 + 2*v + 12)) rfl dX6_agree_10 ?_
  refine k_alen hx hb hK (t := 0) rfl (dz_ag hP1 v hv4) dX6_agree_13 ?_
  refine k_top (y := nI 4) rfl ?_
  refine k_S (As := [.int (nI k), .int (nI 4)]) (rest := []) S hK (c_X6_isIndex_n l E k 4 (by omega) (by omega)) gX6_agree_X6_isIndex rfl hd_X6_isIndex ⟨rfl, rfl⟩ ⟨Nat.le_of_ble_eq_true rfl, Nat.le_of_ble_eq_true rfl⟩ trivial rfl hl.1 rfl (Nat.le_of_ble_eq_true rfl) dX6_agree_14 ⟨Nat.le_of_ble_eq_true rfl, Nat.le_of_ble_eq_true rfl⟩ ?_
  refine b_ne (tgt := 30) hx hb dX6_agree_17 (by decide) (fun c17 => ?_) (fun h => absurd hq4 h)
  refine lv_iload_n hx hb dX6_agree_30 rfl (lv_at hl 4 rfl) ?_
  refine lv_iconst (v := nI 0) hx hb dX6_agree_31 (by decide) ?_
  refine lv_bipush (v := nI 100) hx hb dX6_agree_32 (by decide) ?_
  refine k_S (As := [.int y, .int (nI 0), .int (nI 100)]) (rest := []) S hK (c_X6_requireRange l E 0 100 y h1) gX6_agree_X6_requireRange rfl hd_X6_requireRange ⟨rfl, rfl⟩ ⟨Nat.le_of_ble_eq_true rfl, Nat.le_of_ble_eq_true rfl⟩ trivial rfl hl.1 rfl (Nat.le_of_ble_eq_true rfl) dX6_agree_34 ⟨Nat.le_of_ble_eq_true rfl, Nat.le_of_ble_eq_true rfl⟩ ?_
  refine lv_aload_n hx hb dX6_agree_37 rfl (lv_at hl 1 rfl) ?_
  refine k_get S hK hP0 rfl (fun _ h => List.mem_cons_of_mem _ (List.mem_append_left _ (List.mem_append_left _ (List.mem_append_left _ (List.mem_append_left _ (List.mem_append_left _ (List.mem_append_left _ (List.mem_append_right _ (h))))))))) 2 (by decide) (List.mem_cons_of_mem _ (List.mem_append_left _ (List.mem_append_left _ (List.mem_append_left _ (List.mem_append_left _ (List.mem_append_left _ (List.mem_append_left _ (List.mem_append_left _ (List.mem_append_left _ (List.mem_append_left _ (List.mem_of_getElem? (i := 3) rfl))))))))))) rfl (v := .ref (o + 119)) rfl dX6_agree_38 ?_
  refine lv_aload_n hx hb dX6_agree_41 rfl (lv_at hl 1 rfl) ?_
  refine k_get S hK hP0 rfl (fun _ h => List.mem_cons_of_mem _ (List.mem_append_left _ (List.mem_append_left _ (List.mem_append_left _ (List.mem_append_left _ (List.mem_append_left _ (List.mem_append_left _ (List.mem_append_right _ (h))))))))) 0 (by decide) (List.mem_cons_of_mem _ (List.mem_append_left _ (List.mem_append_left _ (List.mem_append_left _ (List.mem_append_left _ (List.mem_append_left _ (List.mem_append_left _ (List.mem_append_left _ (List.mem_append_left _ (List.mem_append_left _ (List.mem_of_getElem? (i := 4) rfl))))))))))) rfl (v := .ref (o + 1)) rfl dX6_agree_42 ?_
  refine k_VM (As := [.ref (o + 1)]) (rest := []) S hK (c_X2_save l E (o + 119) sn r (o + 1) z (by omega) hI hn6) gX6_agree_X2_save rfl hd_X2_save ⟨rfl, rfl⟩ ⟨Nat.le_of_ble_eq_true rfl, Nat.le_of_ble_eq_true rfl⟩ (k_recv hK (hy_at hP3) rfl) ⟨hP3, hP1⟩ rfl hl.1 rfl (Nat.le_of_ble_eq_true rfl) dX6_agree_45 ⟨Nat.le_of_ble_eq_true rfl, Nat.le_of_ble_eq_true rfl⟩ hS (fun q h => by exact ⟨by have := h.1; omega, by have := h.2; omega⟩) (fun q h => by exact ⟨by have := h.1; omega, by have := h.2; omega⟩) (fun H locs hQ zH fH hS => ?_)
  have hP := hQ
  have hV1 := hP
  have hk0 := bo_fr2 hP4 (fun q hz hq => fH q hz (bl_ne hq (by omega)))
  have hk1 := gg_fr2 hP0 (fun q hz hq => fH q hz (bl_ne hq (by omega)))
  have hk2 := dz_fr2 hP1 (fun q hz hq => fH q hz (bl_ne hq (by omega)))
  have hk3 := tr_fr2 hP2 (fun q hz hq => fH q hz (bl_ne hq (by omega)))
  refine lv_aload hx hb dX6_agree_48 (lv_at hl 0 rfl) ?_
  refine k_get S hK (dz_v hk2 v hv4) rfl (fun _ h => List.mem_cons_of_mem _ (List.mem_append_left _ (List.mem_append_left _ (List.mem_append_left _ (List.mem_append_left _ (List.mem_append_left _ (List.mem_append_left _ (List.mem_append_left _ (List.mem_append_right _ (h)))))))))) 0 (by decide) (List.mem_cons_of_mem _ (List.mem_append_left _ (List.mem_append_left _ (List.mem_append_left _ (List.mem_append_left _ (List.mem_append_left _ (List.mem_append_left _ (List.mem_append_left _ (List.mem_append_left _ (List.mem_append_left _ (List.mem_of_getElem? (i := 2) rfl))))))))))) rfl (v := .ref (o + 1 + 2*v + 12)) rfl dX6_agree_50 ?_
  refine lv_iload_n hx hb dX6_agree_53 rfl (lv_at hl 3 rfl) ?_
  refine k_iald hx hb hK (dz_ag hk2 v hv4) (by omega) (by decide) (v := z (8*v + k + 34)) rfl dX6_agree_54 ?_
  refine lv_istore (lv' := [(5, .int (z (8*v + k + 34))), (4, .ref (o + 1 + 2*v + 11)), (0, .ref o), (1, .int (nI v)), (2, .int (nI k)), (3, .int y)]) hx hb dX6_agree_55 hl (by decide) rfl (fun ls hl => ?_)
  refine lv_aload hx hb dX6_agree_57 (lv_at hl 1 rfl) ?_
  refine k_get S hK (dz_v hk2 v hv4) rfl (fun _ h => List.mem_cons_of_mem _ (List.mem_append_left _ (List.mem_append_left _ (List.mem_append_left _ (List.mem_append_left _ (List.mem_append_left _ (List.mem_append_left _ (List.mem_append_left _ (List.mem_append_right _ (h)))))))))) 0 (by decide) (List.mem_cons_of_mem _ (List.mem_append_left _ (List.mem_append_left _ (List.mem_append_left _ (List.mem_append_left _ (List.mem_append_left _ (List.mem_append_left _ (List.mem_append_left _ (List.mem_append_left _ (List.mem_append_left _ (List.mem_of_getElem? (i := 2) rfl))))))))))) rfl (v := .ref (o + 1 + 2*v + 12)) rfl dX6_agree_59 ?_
  refine lv_iload_n hx hb dX6_agree_62 rfl (lv_at hl 4 rfl) ?_
  refine lv_iload_n hx hb dX6_agree_63 rfl (lv_at hl 5 rfl) ?_
  refine dz_astA hv4 hx hb hK hk2 (by omega) hS (fun q h => bl_sub h (by omega)) dX6_agree_64 (fun H locs hP zH fH hS => ?_)
  have hV2 := hP
  have hk0 := bo_fr2 hk0 (fun q _ hq => fH q (bl_ne hq (by omega)))
  have hk1 := gg_fr2 hk1 (fun q _ hq => fH q (bl_ne hq (by omega)))
  have hk3 := tr_fr2 hk3 (fun q _ hq => fH q (bl_ne hq (by omega)))
  have hk4 := hy_fr2 hV1 (fun q _ hq => fH q (bl_ne hq (by omega)))
  refine lv_iload hx hb dX6_agree_65 (lv_at hl 0 rfl) ?_
  exact k_iretM hx hb hr hlk dX6_agree_67 hS ⟨hk1, (show dz E (o + 1) (agZ z v k y) _ from hV2), hk3, hk4, hk0⟩ (rfl)
def rm_X6_limit : Room := { frames := 4, cells := 0, slots := 0, locals := 86 }
theorem hd_X6_limit : k_hd1 yX6_limit RX6 2 := by decide +kernel
set_option maxHeartbeats 4000000 in
set_option maxRecDepth 100000 in
theorem c_X6_limit (l : Launch) (E : ke_E) (o : Nat) (z : Nat → Int32) (sn : Nat) (r : Nat → Int32) (bn : Nat) (f : Nat → Int32) (v : Nat) (y : Int32) (hI : iv z) (hn6 : sn ≤ 6) (hv4 : v < 4) (h1 : nI 0 ≤ y ∧ y ≤ nI 99999) : Met l yX6_limit wsX6_limit rm_X6_limit (kp E [.ref o, .int (nI v), .int y] (fun H => gg E o H ∧ dz E (o + 1) z H ∧ tr E (o + 60) H ∧ hy E (o + 119) sn r H ∧ bo E (o + 475) bn (auE (au f bn)) (auS (au f bn)) f H)) (qm (some (.int (z (8*v + 30)))) (bl o 477) (fun H => gg E o H ∧ dz E (o + 1) (liZ z v y) H ∧ tr E (o + 60) H ∧ hy E (o + 119) (svN sn) (svR r z sn) H ∧ bo E (o + 475) bn (auE (au f bn)) (auS (au f bn)) f H)) 0 0 (bl o 477) := by
  refine k_hd (cc := cX6_limit) (maxL := 5) (ret := (some .int)) (by decide) rfl (Nat.le_of_ble_eq_true rfl) ?_
  intro p e s m below meth c ls S hr hlk hnm hK hP hl
  have hx := S.1
  have hb := S.2.1
  have hts := S.2.2.2.2
  obtain ⟨hP0, hP1, hP2, hP3, hP4⟩ := hP
  have hl : lv_has ls 5 [(0, .ref o), (1, .int (nI v)), (2, .int y)] := hl
  have hS : va_S (bl o 477) s.heap s.heap [] := va_S.rf
  have hc20 := iv_c hI
  refine lv_aload_n hx hb dX6_limit_0 rfl (lv_at hl 0 rfl) ?_
  refine lv_iload_n hx hb dX6_limit_1 rfl (lv_at hl 1 rfl) ?_
  refine k_V (As := [.int (nI v)]) (rest := []) S hK (c_X6_vendorNumbered l E o z v hI hv4) gX6_limit_X6_vendorNumbered rfl hd_X6_vendorNumbered ⟨rfl, rfl⟩ ⟨Nat.le_of_ble_eq_true rfl, Nat.le_of_ble_eq_true rfl⟩ (k_recv hK hP0 rfl) ⟨hP0, hP1⟩ rfl hl.1 rfl (Nat.le_of_ble_eq_true rfl) dX6_limit_2 ⟨Nat.le_of_ble_eq_true rfl, Nat.le_of_ble_eq_true rfl⟩ ?_
  refine lv_astore_n (lv' := [(3, .ref (o + 1 + 2*v + 11)), (0, .ref o), (1, .int (nI v)), (2, .int y)]) hx hb dX6_limit_5 rfl hl (by decide) rfl (fun ls hl => ?_)
  refine lv_iload_n hx hb dX6_limit_6 rfl (lv_at hl 3 rfl) ?_
  refine lv_iconst (v := nI 0) hx hb dX6_limit_7 (by decide) ?_
  refine lv_ldc (v := nI 99999) hx hb S.2.2.2.1 (hts _ (List.mem_cons_of_mem _ (List.mem_append_left _ (List.mem_append_left _ (List.mem_append_left _ (List.mem_append_left _ (List.mem_append_left _ (List.mem_append_left _ (List.mem_append_left _ (List.mem_append_left _ (List.mem_append_left _ (List.mem_of_getElem? (i := 0) rfl)))))))))))) dX6_limit_8 ?_
  refine k_S (As := [.int y, .int (nI 0), .int (nI 99999)]) (rest := []) S hK (c_X6_requireRange l E 0 99999 y h1) gX6_limit_X6_requireRange rfl hd_X6_requireRange ⟨rfl, rfl⟩ ⟨Nat.le_of_ble_eq_true rfl, Nat.le_of_ble_eq_true rfl⟩ trivial rfl hl.1 rfl (Nat.le_of_ble_eq_true rfl) dX6_limit_10 ⟨Nat.le_of_ble_eq_true rfl, Nat.le_of_ble_eq_true rfl⟩ ?_
  refine lv_aload_n hx hb dX6_limit_13 rfl (lv_at hl 1 rfl) ?_
  refine k_get S hK hP0 rfl (fun _ h => List.mem_cons_of_mem _ (List.mem_append_left _ (List.mem_append_left _ (List.mem_append_left _ (List.mem_append_left _ (List.mem_append_left _ (List.mem_append_left _ (List.mem_append_left _ (List.mem_append_right _ (h)))))))))) 2 (by decide) (List.mem_cons_of_mem _ (List.mem_append_left _ (List.mem_append_left _ (List.mem_append_left _ (List.mem_append_left _ (List.mem_append_left _ (List.mem_append_left _ (List.mem_append_left _ (List.mem_append_left _ (List.mem_append_left _ (List.mem_of_getElem? (i := 1) rfl))))))))))) rfl (v := .ref (o + 119)) rfl dX6_limit_14 ?_
  refine lv_aload_n hx hb dX6_limit_17 rfl (lv_at hl 1 rfl) ?_
  refine k_get S hK hP0 rfl (fun _ h => List.mem_cons_of_mem _ (List.mem_append_left _ (List.mem_append_left _ (List.mem_append_left _ (List.mem_append_left _ (List.mem_append_left _ (List.mem_append_left _ (List.mem_append_left _ (List.mem_append_right _ (h)))))))))) 0 (by decide) (List.mem_cons_of_mem _ (List.mem_append_left _ (List.mem_append_left _ (List.mem_append_left _ (List.mem_append_left _ (List.mem_append_left _ (List.mem_append_left _ (List.mem_append_left _ (List.mem_append_left _ (List.mem_append_left _ (List.mem_of_getElem? (i := 2) rfl))))))))))) rfl (v := .ref (o + 1)) rfl dX6_limit_18 ?_
  refine k_VM (As := [.ref (o + 1)]) (rest := []) S hK (c_X2_save l E (o + 119) sn r (o + 1) z (by omega) hI hn6) gX6_limit_X2_save rfl hd_X2_save ⟨rfl, rfl⟩ ⟨Nat.le_of_ble_eq_true rfl, Nat.le_of_ble_eq_true rfl⟩ (k_recv hK (hy_at hP3) rfl) ⟨hP3, hP1⟩ rfl hl.1 rfl (Nat.le_of_ble_eq_true rfl) dX6_limit_21 ⟨Nat.le_of_ble_eq_true rfl, Nat.le_of_ble_eq_true rfl⟩ hS (fun q h => by exact ⟨by have := h.1; omega, by have := h.2; omega⟩) (fun q h => by exact ⟨by have := h.1; omega, by have := h.2; omega⟩) (fun H locs hQ zH fH hS => ?_)
  have hP := hQ
  have hV1 := hP
  have hk0 := bo_fr2 hP4 (fun q hz hq => fH q hz (bl_ne hq (by omega)))
  have hk1 := gg_fr2 hP0 (fun q hz hq => fH q hz (bl_ne hq (by omega)))
  have hk2 := dz_fr2 hP1 (fun q hz hq => fH q hz (bl_ne hq (by omega)))
  have hk3 := tr_fr2 hP2 (fun q hz hq => fH q hz (bl_ne hq (by omega)))
  refine lv_aload_n hx hb dX6_limit_24 rfl (lv_at hl 0 rfl) ?_
  refine k_get S hK (dz_v hk2 v hv4) rfl (fun _ h => List.mem_cons_of_mem _ (List.mem_append_left _ (List.mem_append_left _ (List.mem_append_left _ (List.mem_append_left _ (List.mem_append_left _ (List.mem_append_left _ (List.mem_append_right _ (h))))))))) 1 (by decide) (List.mem_cons_of_mem _ (List.mem_append_left _ (List.mem_append_left _ (List.mem_append_left _ (List.mem_append_left _ (List.mem_append_left _ (List.mem_append_left _ (List.mem_append_left _ (List.mem_append_left _ (List.mem_append_left _ (List.mem_of_getElem? (i := 3) rfl))))))))))) rfl (v := .int (z (8*v + 30))) rfl dX6_limit_25 ?_
  refine lv_istore (lv' := [(4, .int (z (8*v + 30))), (3, .ref (o + 1 + 2*v + 11)), (0, .ref o), (1, .int (nI v)), (2, .int y)]) hx hb dX6_limit_28 hl (by decide) rfl (fun ls hl => ?_)
  refine lv_aload_n hx hb dX6_limit_30 rfl (lv_at hl 1 rfl) ?_
  refine lv_iload_n hx hb dX6_limit_31 rfl (lv_at hl 4 rfl) ?_
  refine dz_putV hv4 S hK hk2 (fun _ h => List.mem_cons_of_mem _ (List.mem_append_left _ (List.mem_append_left _ (List.mem_append_left _ (List.mem_append_left _ (List.mem_append_left _ (List.mem_append_left _ (List.mem_append_right _ (h))))))))) 1 (by decide) (List.mem_cons_of_mem _ (List.mem_append_left _ (List.mem_append_left _ (List.mem_append_left _ (List.mem_append_left _ (List.mem_append_left _ (List.mem_append_left _ (List.mem_append_left _ (List.mem_append_left _ (List.mem_append_left _ (List.mem_of_getElem? (i := 3) rfl))))))))))) rfl rfl rfl rfl (j := 30) (fun z9 => by simp [ve_F, upd]) (by decide) hS (fun q h => bl_sub h (by omega)) dX6_limit_32 (fun H locs hP zH fH hS => ?_)
  have hV2 := hP
  have hk0 := bo_fr2 hk0 (fun q _ hq => fH q (bl_ne hq (by omega)))
  have hk1 := gg_fr2 hk1 (fun q _ hq => fH q (bl_ne hq (by omega)))
  have hk3 := tr_fr2 hk3 (fun q _ hq => fH q (bl_ne hq (by omega)))
  have hk4 := hy_fr2 hV1 (fun q _ hq => fH q (bl_ne hq (by omega)))
  refine lv_iload hx hb dX6_limit_35 (lv_at hl 0 rfl) ?_
  exact k_iretM hx hb hr hlk dX6_limit_37 hS ⟨hk1, (show dz E (o + 1) (liZ z v y) _ from hV2), hk3, hk4, hk0⟩ (rfl)
def rm_X6_lowestValue : Room := { frames := 0, cells := 0, slots := 0, locals := 0 }
theorem hd_X6_lowestValue : k_hd1 yX6_lowestValue RX6 1 := by decide +kernel
set_option maxHeartbeats 4000000 in
set_option maxRecDepth 100000 in
theorem c_X6_lowestValue_0 (l : Launch) (E : ke_E) : Met l yX6_lowestValue wsX6_lowestValue rm_X6_lowestValue (kp E [.int (nI 0)] (fun _ => True)) (qp (some (.int (nI 0)))) 0 0 nof := by
  refine k_hd (cc := cX6_lowestValue) (maxL := 1) (ret := (some .int)) (by decide) rfl (Nat.le_of_ble_eq_true rfl) ?_
  intro p e s m below meth c ls S hr hlk hnm hK hP hl
  have hx := S.1
  have hb := S.2.1
  have hts := S.2.2.2.2
  have hl : lv_has ls 1 [(0, .int (nI 0))] := hl
  refine lv_iload_n hx hb dX6_lowestValue_0 rfl (lv_at hl 0 rfl) ?_
  refine lv_iconst (v := nI 3) hx hb dX6_lowestValue_1 (by decide) ?_
  refine n_ine (tgt := 9) hx hb dX6_lowestValue_2 (by decide) (by omega) (by omega) (fun c2 => ?_) (fun h => absurd h (by decide))
  refine lv_iconst (v := nI 0) hx hb dX6_lowestValue_9 (by decide) ?_
  exact k_iret hx hb hr hlk dX6_lowestValue_10 (rfl)
def rm_X6_highestValue : Room := { frames := 0, cells := 0, slots := 0, locals := 0 }
theorem hd_X6_highestValue : k_hd1 yX6_highestValue RX6 1 := by decide +kernel
set_option maxHeartbeats 4000000 in
set_option maxRecDepth 100000 in
theorem c_X6_highestValue_0 (l : Launch) (E : ke_E) : Met l yX6_highestValue wsX6_highestValue rm_X6_highestValue (kp E [.int (nI 0)] (fun _ => True)) (qp (some (.int (nI 36)))) 0 0 nof := by
  refine k_hd (cc := cX6_highestValue) (maxL := 1) (ret := (some .int)) (by decide) rfl (Nat.le_of_ble_eq_true rfl) ?_
  intro p e s m below meth c ls S hr hlk hnm hK hP hl
  have hx := S.1
  have hb := S.2.1
  have hts := S.2.2.2.2
  have hl : lv_has ls 1 [(0, .int (nI 0))] := hl
  refine lv_iload_n hx hb dX6_highestValue_0 rfl (lv_at hl 0 rfl) ?_
  refine lv_iconst (v := nI 3) hx hb dX6_highestValue_1 (by decide) ?_
  refine n_ine (tgt := 7) hx hb dX6_highestValue_2 (by decide) (by omega) (by omega) (fun c2 => ?_) (fun h => absurd h (by decide))
  refine lv_iload_n hx hb dX6_highestValue_7 rfl (lv_at hl 0 rfl) ?_
  refine lv_iconst (v := nI 4) hx hb dX6_highestValue_8 (by decide) ?_
  refine n_ine (tgt := 17) hx hb dX6_highestValue_9 (by decide) (by omega) (by omega) (fun c9 => ?_) (fun h => absurd h (by decide))
  refine lv_bipush (v := nI 36) hx hb dX6_highestValue_17 (by decide) ?_
  exact k_iret hx hb hr hlk dX6_highestValue_19 (rfl)
set_option maxHeartbeats 4000000 in
set_option maxRecDepth 100000 in
theorem c_X6_lowestValue_1 (l : Launch) (E : ke_E) : Met l yX6_lowestValue wsX6_lowestValue rm_X6_lowestValue (kp E [.int (nI 1)] (fun _ => True)) (qp (some (.int (nI 0)))) 0 0 nof := by
  refine k_hd (cc := cX6_lowestValue) (maxL := 1) (ret := (some .int)) (by decide) rfl (Nat.le_of_ble_eq_true rfl) ?_
  intro p e s m below meth c ls S hr hlk hnm hK hP hl
  have hx := S.1
  have hb := S.2.1
  have hts := S.2.2.2.2
  have hl : lv_has ls 1 [(0, .int (nI 1))] := hl
  refine lv_iload_n hx hb dX6_lowestValue_0 rfl (lv_at hl 0 rfl) ?_
  refine lv_iconst (v := nI 3) hx hb dX6_lowestValue_1 (by decide) ?_
  refine n_ine (tgt := 9) hx hb dX6_lowestValue_2 (by decide) (by omega) (by omega) (fun c2 => ?_) (fun h => absurd h (by decide))
  refine lv_iconst (v := nI 0) hx hb dX6_lowestValue_9 (by decide) ?_
  exact k_iret hx hb hr hlk dX6_lowestValue_10 (rfl)
set_option maxHeartbeats 4000000 in
set_option maxRecDepth 100000 in
theorem c_X6_highestValue_1 (l : Launch) (E : ke_E) : Met l yX6_highestValue wsX6_highestValue rm_X6_highestValue (kp E [.int (nI 1)] (fun _ => True)) (qp (some (.int (nI 36)))) 0 0 nof := by
  refine k_hd (cc := cX6_highestValue) (maxL := 1) (ret := (some .int)) (by decide) rfl (Nat.le_of_ble_eq_true rfl) ?_
  intro p e s m below meth c ls S hr hlk hnm hK hP hl
  have hx := S.1
  have hb := S.2.1
  have hts := S.2.2.2.2
  have hl : lv_has ls 1 [(0, .int (nI 1))] := hl
  refine lv_iload_n hx hb dX6_highestValue_0 rfl (lv_at hl 0 rfl) ?_
  refine lv_iconst (v := nI 3) hx hb dX6_highestValue_1 (by decide) ?_
  refine n_ine (tgt := 7) hx hb dX6_highestValue_2 (by decide) (by omega) (by omega) (fun c2 => ?_) (fun h => absurd h (by decide))
  refine lv_iload_n hx hb dX6_highestValue_7 rfl (lv_at hl 0 rfl) ?_
  refine lv_iconst (v := nI 4) hx hb dX6_highestValue_8 (by decide) ?_
  refine n_ine (tgt := 17) hx hb dX6_highestValue_9 (by decide) (by omega) (by omega) (fun c9 => ?_) (fun h => absurd h (by decide))
  refine lv_bipush (v := nI 36) hx hb dX6_highestValue_17 (by decide) ?_
  exact k_iret hx hb hr hlk dX6_highestValue_19 (rfl)
set_option maxHeartbeats 4000000 in
set_option maxRecDepth 100000 in
theorem c_X6_lowestValue_2 (l : Launch) (E : ke_E) : Met l yX6_lowestValue wsX6_lowestValue rm_X6_lowestValue (kp E [.int (nI 2)] (fun _ => True)) (qp (some (.int (nI 0)))) 0 0 nof := by
  refine k_hd (cc := cX6_lowestValue) (maxL := 1) (ret := (some .int)) (by decide) rfl (Nat.le_of_ble_eq_true rfl) ?_
  intro p e s m below meth c ls S hr hlk hnm hK hP hl
  have hx := S.1
  have hb := S.2.1
  have hts := S.2.2.2.2
  have hl : lv_has ls 1 [(0, .int (nI 2))] := hl
  refine lv_iload_n hx hb dX6_lowestValue_0 rfl (lv_at hl 0 rfl) ?_
  refine lv_iconst (v := nI 3) hx hb dX6_lowestValue_1 (by decide) ?_
  refine n_ine (tgt := 9) hx hb dX6_lowestValue_2 (by decide) (by omega) (by omega) (fun c2 => ?_) (fun h => absurd h (by decide))
  refine lv_iconst (v := nI 0) hx hb dX6_lowestValue_9 (by decide) ?_
  exact k_iret hx hb hr hlk dX6_lowestValue_10 (rfl)
set_option maxHeartbeats 4000000 in
set_option maxRecDepth 100000 in
theorem c_X6_highestValue_2 (l : Launch) (E : ke_E) : Met l yX6_highestValue wsX6_highestValue rm_X6_highestValue (kp E [.int (nI 2)] (fun _ => True)) (qp (some (.int (nI 36)))) 0 0 nof := by
  refine k_hd (cc := cX6_highestValue) (maxL := 1) (ret := (some .int)) (by decide) rfl (Nat.le_of_ble_eq_true rfl) ?_
  intro p e s m below meth c ls S hr hlk hnm hK hP hl
  have hx := S.1
  have hb := S.2.1
  have hts := S.2.2.2.2
  have hl : lv_has ls 1 [(0, .int (nI 2))] := hl
  refine lv_iload_n hx hb dX6_highestValue_0 rfl (lv_at hl 0 rfl) ?_
  refine lv_iconst (v := nI 3) hx hb dX6_highestValue_1 (by decide) ?_
  refine n_ine (tgt := 7) hx hb dX6_highestValue_2 (by decide) (by omega) (by omega) (fun c2 => ?_) (fun h => absurd h (by decide))
  refine lv_iload_n hx hb dX6_highestValue_7 rfl (lv_at hl 0 rfl) ?_
  refine lv_iconst (v := nI 4) hx hb dX6_highestValue_8 (by decide) ?_
  refine n_ine (tgt := 17) hx hb dX6_highestValue_9 (by decide) (by omega) (by omega) (fun c9 => ?_) (fun h => absurd h (by decide))
  refine lv_bipush (v := nI 36) hx hb dX6_highestValue_17 (by decide) ?_
  exact k_iret hx hb hr hlk dX6_highestValue_19 (rfl)
set_option maxHeartbeats 4000000 in
set_option maxRecDepth 100000 in
theorem c_X6_lowestValue_3 (l : Launch) (E : ke_E) : Met l yX6_lowestValue wsX6_lowestValue rm_X6_lowestValue (kp E [.int (nI 3)] (fun _ => True)) (qp (some (.int (nI 1)))) 0 0 nof := by
  refine k_hd (cc := cX6_lowestValue) (maxL := 1) (ret := (some .int)) (by decide) rfl (Nat.le_of_ble_eq_true rfl) ?_
  intro p e s m below meth c ls S hr hlk hnm hK hP hl
  have hx := S.1
  have hb := S.2.1
  have hts := S.2.2.2.2
  have hl : lv_has ls 1 [(0, .int (nI 3))] := hl
  refine lv_iload_n hx hb dX6_lowestValue_0 rfl (lv_at hl 0 rfl) ?_
  refine lv_iconst (v := nI 3) hx hb dX6_lowestValue_1 (by decide) ?_
  refine n_ine (tgt := 9) hx hb dX6_lowestValue_2 (by decide) (by omega) (by omega) (fun h => absurd h (by decide)) (fun c2 => ?_)
  refine lv_iconst (v := nI 1) hx hb dX6_lowestValue_5 (by decide) ?_
  refine lv_goto (tgt := 10) hx hb dX6_lowestValue_6 (by decide) ?_
  exact k_iret hx hb hr hlk dX6_lowestValue_10 (rfl)
set_option maxHeartbeats 4000000 in
set_option maxRecDepth 100000 in
theorem c_X6_highestValue_3 (l : Launch) (E : ke_E) : Met l yX6_highestValue wsX6_highestValue rm_X6_highestValue (kp E [.int (nI 3)] (fun _ => True)) (qp (some (.int (nI 5)))) 0 0 nof := by
  refine k_hd (cc := cX6_highestValue) (maxL := 1) (ret := (some .int)) (by decide) rfl (Nat.le_of_ble_eq_true rfl) ?_
  intro p e s m below meth c ls S hr hlk hnm hK hP hl
  have hx := S.1
  have hb := S.2.1
  have hts := S.2.2.2.2
  have hl : lv_has ls 1 [(0, .int (nI 3))] := hl
  refine lv_iload_n hx hb dX6_highestValue_0 rfl (lv_at hl 0 rfl) ?_
  refine lv_iconst (v := nI 3) hx hb dX6_highestValue_1 (by decide) ?_
  refine n_ine (tgt := 7) hx hb dX6_highestValue_2 (by decide) (by omega) (by omega) (fun h => absurd h (by decide)) (fun c2 => ?_)
  refine lv_iconst (v := nI 5) hx hb dX6_highestValue_5 (by decide) ?_
  exact k_iret hx hb hr hlk dX6_highestValue_6 (rfl)
set_option maxHeartbeats 4000000 in
set_option maxRecDepth 100000 in
theorem c_X6_lowestValue_4 (l : Launch) (E : ke_E) : Met l yX6_lowestValue wsX6_lowestValue rm_X6_lowestValue (kp E [.int (nI 4)] (fun _ => True)) (qp (some (.int (nI 0)))) 0 0 nof := by
  refine k_hd (cc := cX6_lowestValue) (maxL := 1) (ret := (some .int)) (by decide) rfl (Nat.le_of_ble_eq_true rfl) ?_
  intro p e s m below meth c ls S hr hlk hnm hK hP hl
  have hx := S.1
  have hb := S.2.1
  have hts := S.2.2.2.2
  have hl : lv_has ls 1 [(0, .int (nI 4))] := hl
  refine lv_iload_n hx hb dX6_lowestValue_0 rfl (lv_at hl 0 rfl) ?_
  refine lv_iconst (v := nI 3) hx hb dX6_lowestValue_1 (by decide) ?_
  refine n_ine (tgt := 9) hx hb dX6_lowestValue_2 (by decide) (by omega) (by omega) (fun c2 => ?_) (fun h => absurd h (by decide))
  refine lv_iconst (v := nI 0) hx hb dX6_lowestValue_9 (by decide) ?_
  exact k_iret hx hb hr hlk dX6_lowestValue_10 (rfl)
set_option maxHeartbeats 4000000 in
set_option maxRecDepth 100000 in
theorem c_X6_highestValue_4 (l : Launch) (E : ke_E) : Met l yX6_highestValue wsX6_highestValue rm_X6_highestValue (kp E [.int (nI 4)] (fun _ => True)) (qp (some (.int (nI 20)))) 0 0 nof := by
  refine k_hd (cc := cX6_highestValue) (maxL := 1) (ret := (some .int)) (by decide) rfl (Nat.le_of_ble_eq_true rfl) ?_
  intro p e s m below meth c ls S hr hlk hnm hK hP hl
  have hx := S.1
  have hb := S.2.1
  have hts := S.2.2.2.2
  have hl : lv_has ls 1 [(0, .int (nI 4))] := hl
  refine lv_iload_n hx hb dX6_highestValue_0 rfl (lv_at hl 0 rfl) ?_
  refine lv_iconst (v := nI 3) hx hb dX6_highestValue_1 (by decide) ?_
  refine n_ine (tgt := 7) hx hb dX6_highestValue_2 (by decide) (by omega) (by omega) (fun c2 => ?_) (fun h => absurd h (by decide))
  refine lv_iload_n hx hb dX6_highestValue_7 rfl (lv_at hl 0 rfl) ?_
  refine lv_iconst (v := nI 4) hx hb dX6_highestValue_8 (by decide) ?_
  refine n_ine (tgt := 17) hx hb dX6_highestValue_9 (by decide) (by omega) (by omega) (fun h => absurd h (by decide)) (fun c9 => ?_)
  refine lv_bipush (v := nI 20) hx hb dX6_highestValue_12 (by decide) ?_
  refine lv_goto (tgt := 19) hx hb dX6_highestValue_14 (by decide) ?_
  exact k_iret hx hb hr hlk dX6_highestValue_19 (rfl)
def rm_X6_set : Room := { frames := 4, cells := 0, slots := 0, locals := 86 }
theorem hd_X6_set : k_hd1 yX6_set RX6 2 := by decide +kernel
set_option maxHeartbeats 4000000 in
set_option maxRecDepth 100000 in
theorem c_X6_set (l : Launch) (E : ke_E) (o : Nat) (z : Nat → Int32) (sn : Nat) (r : Nat → Int32) (bn : Nat) (f : Nat → Int32) (k : Nat) (y : Int32) (hI : iv z) (hn6 : sn ≤ 6) (hk : k < 5) (h1 : ms k y) : Met l yX6_set wsX6_set rm_X6_set (kp E [.ref o, .int (nI k), .int y] (fun H => gg E o H ∧ dz E (o + 1) z H ∧ tr E (o + 60) H ∧ hy E (o + 119) sn r H ∧ bo E (o + 475) bn (auE (au f bn)) (auS (au f bn)) f H)) (qm (some (.int (z (k + 7)))) (bl o 477) (fun H => gg E o H ∧ dz E (o + 1) (seZ z k y) H ∧ tr E (o + 60) H ∧ hy E (o + 119) (svN sn) (svR r z sn) H ∧ bo E (o + 475) bn (auE (au f bn)) (auS (au f bn)) f H)) 0 0 (bl o 477) := by
  refine k_hd (cc := cX6_set) (maxL := 4) (ret := (some .int)) (by decide) rfl (Nat.le_of_ble_eq_true rfl) ?_
  intro p e s m below meth c ls S hr hlk hnm hK hP hl
  have hx := S.1
  have hb := S.2.1
  have hts := S.2.2.2.2
  obtain ⟨hP0, hP1, hP2, hP3, hP4⟩ := hP
  have hl : lv_has ls 4 [(0, .ref o), (1, .int (nI k)), (2, .int y)] := hl
  have hS : va_S (bl o 477) s.heap s.heap [] := va_S.rf
  have hc20 := iv_c hI
  rcases (by omega : k = 0 ∨ k = 1 ∨ k = 2 ∨ k = 3 ∨ k = 4) with rfl | rfl | rfl | rfl | rfl
  · have hl : lv_has ls 4 [(0, .ref o), (1, .int (nI 0)), (2, .int y)] := hl
    refine lv_iload_n hx hb dX6_set_0 rfl (lv_at hl 1 rfl) ?_
    refine lv_aload_n hx hb dX6_set_1 rfl (lv_at hl 0 rfl) ?_
    refine k_get S hK hP0 rfl (fun _ h => List.mem_cons_of_mem _ (List.mem_append_left _ (List.mem_append_left _ (List.mem_append_left _ (List.mem_append_left _ (List.mem_append_left _ (List.mem_append_left _ (List.mem_append_left _ (List.mem_append_right _ (h)))))))))) 0 (by decide) (List.mem_cons_of_mem _ (List.mem_append_left _ (List.mem_append_left _ (List.mem_append_left _ (List.mem_append_left _ (List.mem_append_left _ (List.mem_append_left _ (List.mem_append_left _ (List.mem_append_left _ (List.mem_append_left _ (List.mem_of_getElem? (i := 2) rfl))))))))))) rfl (v := .ref (o + 1)) rfl dX6_set_2 ?_
    refine k_get S hK (dz_d hP1) rfl (fun _ h => List.mem_cons_of_mem _ (List.mem_append_left _ (List.mem_append_left _ (List.mem_append_left _ (List.mem_append_left _ (List.mem_append_left _ (List.mem_append_left _ (List.mem_append_right _ (h))))))))) 3 (by decide) (List.mem_cons_of_mem _ (List.mem_append_left _ (List.mem_append_left _ (List.mem_append_left _ (List.mem_append_left _ (List.mem_append_left _ (List.mem_append_left _ (List.mem_append_left _ (List.mem_append_left _ (List.mem_append_left _ (List.mem_of_getElem? (i := 3) rfl))))))))))) rfl (v := .ref (o + 1 + 4)) rfl dX6_set_5 ?_
    refine k_alen hx hb hK (t := 0) rfl (dz_st hP1) dX6_set_8 ?_
    refine k_top (y := nI 5) rfl ?_
    refine k_S (As := [.int (nI 0), .int (nI 5)]) (rest := []) S hK (c_X6_isIndex_n l E 0 5 (by omega) (by omega)) gX6_set_X6_isIndex rfl hd_X6_isIndex ⟨rfl, rfl⟩ ⟨Nat.le_of_ble_eq_true rfl, Nat.le_of_ble_eq_true rfl⟩ trivial rfl hl.1 rfl (Nat.le_of_ble_eq_true rfl) dX6_set_9 ⟨Nat.le_of_ble_eq_true rfl, Nat.le_of_ble_eq_true rfl⟩ ?_
    refine b_ne (tgt := 25) hx hb dX6_set_12 (by decide) (fun c12 => ?_) (fun h => absurd (by omega) h)
    refine lv_iload_n hx hb dX6_set_25 rfl (lv_at hl 2 rfl) ?_
    refine lv_iload_n hx hb dX6_set_26 rfl (lv_at hl 1 rfl) ?_
    refine k_S (As := [.int (nI 0)]) (rest := [.int y]) S hK (c_X6_lowestValue_0 l E) gX6_set_X6_lowestValue rfl hd_X6_lowestValue ⟨rfl, rfl⟩ ⟨Nat.le_of_ble_eq_true rfl, Nat.le_of_ble_eq_true rfl⟩ trivial rfl hl.1 rfl (Nat.le_of_ble_eq_true rfl) dX6_set_27 ⟨Nat.le_of_ble_eq_true rfl, Nat.le_of_ble_eq_true rfl⟩ ?_
    refine lv_iload_n hx hb dX6_set_30 rfl (lv_at hl 1 rfl) ?_
    refine k_S (As := [.int (nI 0)]) (rest := [.int (nI 0), .int y]) S hK (c_X6_highestValue_0 l E) gX6_set_X6_highestValue rfl hd_X6_highestValue ⟨rfl, rfl⟩ ⟨Nat.le_of_ble_eq_true rfl, Nat.le_of_ble_eq_true rfl⟩ trivial rfl hl.1 rfl (Nat.le_of_ble_eq_true rfl) dX6_set_31 ⟨Nat.le_of_ble_eq_true rfl, Nat.le_of_ble_eq_true rfl⟩ ?_
    refine k_S (As := [.int y, .int (nI 0), .int (nI 36)]) (rest := []) S hK (c_X6_requireRange l E 0 36 y (h1.1 (by omega))) gX6_set_X6_requireRange rfl hd_X6_requireRange ⟨rfl, rfl⟩ ⟨Nat.le_of_ble_eq_true rfl, Nat.le_of_ble_eq_true rfl⟩ trivial rfl hl.1 rfl (Nat.le_of_ble_eq_true rfl) dX6_set_34 ⟨Nat.le_of_ble_eq_true rfl, Nat.le_of_ble_eq_true rfl⟩ ?_
    refine lv_aload_n hx hb dX6_set_37 rfl (lv_at hl 0 rfl) ?_
    refine k_get S hK hP0 rfl (fun _ h => List.mem_cons_of_mem _ (List.mem_append_left _ (List.mem_append_left _ (List.mem_append_left _ (List.mem_append_left _ (List.mem_append_left _ (List.mem_append_left _ (List.mem_append_left _ (List.mem_append_right _ (h)))))))))) 2 (by decide) (List.mem_cons_of_mem _ (List.mem_append_left _ (List.mem_append_left _ (List.mem_append_left _ (List.mem_append_left _ (List.mem_append_left _ (List.mem_append_left _ (List.mem_append_left _ (List.mem_append_left _ (List.mem_append_left _ (List.mem_of_getElem? (i := 4) rfl))))))))))) rfl (v := .ref (o + 119)) rfl dX6_set_38 ?_
    refine lv_aload_n hx hb dX6_set_41 rfl (lv_at hl 0 rfl) ?_
    refine k_get S hK hP0 rfl (fun _ h => List.mem_cons_of_mem _ (List.mem_append_left _ (List.mem_append_left _ (List.mem_append_left _ (List.mem_append_left _ (List.mem_append_left _ (List.mem_append_left _ (List.mem_append_left _ (List.mem_append_right _ (h)))))))))) 0 (by decide) (List.mem_cons_of_mem _ (List.mem_append_left _ (List.mem_append_left _ (List.mem_append_left _ (List.mem_append_left _ (List.mem_append_left _ (List.mem_append_left _ (List.mem_append_left _ (List.mem_append_left _ (List.mem_append_left _ (List.mem_of_getElem? (i := 2) rfl))))))))))) rfl (v := .ref (o + 1)) rfl dX6_set_42 ?_
    refine k_VM (As := [.ref (o + 1)]) (rest := []) S hK (c_X2_save l E (o + 119) sn r (o + 1) z (by omega) hI hn6) gX6_set_X2_save rfl hd_X2_save ⟨rfl, rfl⟩ ⟨Nat.le_of_ble_eq_true rfl, Nat.le_of_ble_eq_true rfl⟩ (k_recv hK (hy_at hP3) rfl) ⟨hP3, hP1⟩ rfl hl.1 rfl (Nat.le_of_ble_eq_true rfl) dX6_set_45 ⟨Nat.le_of_ble_eq_true rfl, Nat.le_of_ble_eq_true rfl⟩ hS (fun q h => by exact ⟨by have := h.1; omega, by have := h.2; omega⟩) (fun q h => by exact ⟨by have := h.1; omega, by have := h.2; omega⟩) (fun H locs hQ zH fH hS => ?_)
    have hP := hQ
    have hV1 := hP
    have hk0 := bo_fr2 hP4 (fun q hz hq => fH q hz (bl_ne hq (by omega)))
    have hk1 := gg_fr2 hP0 (fun q hz hq => fH q hz (bl_ne hq (by omega)))
    have hk2 := dz_fr2 hP1 (fun q hz hq => fH q hz (bl_ne hq (by omega)))
    have hk3 := tr_fr2 hP2 (fun q hz hq => fH q hz (bl_ne hq (by omega)))
    refine lv_aload_n hx hb dX6_set_48 rfl (lv_at hl 0 rfl) ?_
    refine k_get S hK hk1 rfl (fun _ h => List.mem_cons_of_mem _ (List.mem_append_left _ (List.mem_append_left _ (List.mem_append_left _ (List.mem_append_left _ (List.mem_append_left _ (List.mem_append_left _ (List.mem_append_left _ (List.mem_append_right _ (h)))))))))) 0 (by decide) (List.mem_cons_of_mem _ (List.mem_append_left _ (List.mem_append_left _ (List.mem_append_left _ (List.mem_append_left _ (List.mem_append_left _ (List.mem_append_left _ (List.mem_append_left _ (List.mem_append_left _ (List.mem_append_left _ (List.mem_of_getElem? (i := 2) rfl))))))))))) rfl (v := .ref (o + 1)) rfl dX6_set_49 ?_
    refine k_get S hK (dz_d hk2) rfl (fun _ h => List.mem_cons_of_mem _ (List.mem_append_left _ (List.mem_append_left _ (List.mem_append_left _ (List.mem_append_left _ (List.mem_append_left _ (List.mem_append_left _ (List.mem_append_right _ (h))))))))) 3 (by decide) (List.mem_cons_of_mem _ (List.mem_append_left _ (List.mem_append_left _ (List.mem_append_left _ (List.mem_append_left _ (List.mem_append_left _ (List.mem_append_left _ (List.mem_append_left _ (List.mem_append_left _ (List.mem_append_left _ (List.mem_of_getElem? (i := 3) rfl))))))))))) rfl (v := .ref (o + 1 + 4)) rfl dX6_set_52 ?_
    refine lv_iload_n hx hb dX6_set_55 rfl (lv_at hl 1 rfl) ?_
    refine k_iald hx hb hK (dz_st hk2) (by omega) (by decide) (v := z 7) rfl dX6_set_56 ?_
    refine lv_istore_n (lv' := [(3, .int (z 7)), (0, .ref o), (1, .int (nI 0)), (2, .int y)]) hx hb dX6_set_57 rfl hl (by decide) rfl (fun ls hl => ?_)
    refine lv_aload_n hx hb dX6_set_58 rfl (lv_at hl 1 rfl) ?_
    refine k_get S hK hk1 rfl (fun _ h => List.mem_cons_of_mem _ (List.mem_append_left _ (List.mem_append_left _ (List.mem_append_left _ (List.mem_append_left _ (List.mem_append_left _ (List.mem_append_left _ (List.mem_append_left _ (List.mem_append_right _ (h)))))))))) 0 (by decide) (List.mem_cons_of_mem _ (List.mem_append_left _ (List.mem_append_left _ (List.mem_append_left _ (List.mem_append_left _ (List.mem_append_left _ (List.mem_append_left _ (List.mem_append_left _ (List.mem_append_left _ (List.mem_append_left _ (List.mem_of_getElem? (i := 2) rfl))))))))))) rfl (v := .ref (o + 1)) rfl dX6_set_59 ?_
    refine k_get S hK (dz_d hk2) rfl (fun _ h => List.mem_cons_of_mem _ (List.mem_append_left _ (List.mem_append_left _ (List.mem_append_left _ (List.mem_append_left _ (List.mem_append_left _ (List.mem_append_left _ (List.mem_append_right _ (h))))))))) 3 (by decide) (List.mem_cons_of_mem _ (List.mem_append_left _ (List.mem_append_left _ (List.mem_append_left _ (List.mem_append_left _ (List.mem_append_left _ (List.mem_append_left _ (List.mem_append_left _ (List.mem_append_left _ (List.mem_append_left _ (List.mem_of_getElem? (i := 3) rfl))))))))))) rfl (v := .ref (o + 1 + 4)) rfl dX6_set_62 ?_
    refine lv_iload_n hx hb dX6_set_65 rfl (lv_at hl 2 rfl) ?_
    refine lv_iload_n hx hb dX6_set_66 rfl (lv_at hl 3 rfl) ?_
    refine dz_astS hx hb hK hk2 (by omega) hS (fun q h => bl_sub h (by omega)) dX6_set_67 (fun H locs hP zH fH hS => ?_)
    have hV2 := hP
    have hk0 := bo_fr2 hk0 (fun q _ hq => fH q (bl_ne hq (by omega)))
    have hk1 := gg_fr2 hk1 (fun q _ hq => fH q (bl_ne hq (by omega)))
    have hk3 := tr_fr2 hk3 (fun q _ hq => fH q (bl_ne hq (by omega)))
    have hk4 := hy_fr2 hV1 (fun q _ hq => fH q (bl_ne hq (by omega)))
    refine lv_iload_n hx hb dX6_set_68 rfl (lv_at hl 0 rfl) ?_
    exact k_iretM hx hb hr hlk dX6_set_69 hS ⟨hk1, (show dz E (o + 1) (seZ z 0 y) _ from hV2), hk3, hk4, hk0⟩ (rfl)
  · have hl : lv_has ls 4 [(0, .ref o), (1, .int (nI 1)), (2, .int y)] := hl
    refine lv_iload_n hx hb dX6_set_0 rfl (lv_at hl 1 rfl) ?_
    refine lv_aload_n hx hb dX6_set_1 rfl (lv_at hl 0 rfl) ?_
    refine k_get S hK hP0 rfl (fun _ h => List.mem_cons_of_mem _ (List.mem_append_left _ (List.mem_append_left _ (List.mem_append_left _ (List.mem_append_left _ (List.mem_append_left _ (List.mem_append_left _ (List.mem_append_left _ (List.mem_append_right _ (h)))))))))) 0 (by decide) (List.mem_cons_of_mem _ (List.mem_append_left _ (List.mem_append_left _ (List.mem_append_left _ (List.mem_append_left _ (List.mem_append_left _ (List.mem_append_left _ (List.mem_append_left _ (List.mem_append_left _ (List.mem_append_left _ (List.mem_of_getElem? (i := 2) rfl))))))))))) rfl (v := .ref (o + 1)) rfl dX6_set_2 ?_
    refine k_get S hK (dz_d hP1) rfl (fun _ h => List.mem_cons_of_mem _ (List.mem_append_left _ (List.mem_append_left _ (List.mem_append_left _ (List.mem_append_left _ (List.mem_append_left _ (List.mem_append_left _ (List.mem_append_right _ (h))))))))) 3 (by decide) (List.mem_cons_of_mem _ (List.mem_append_left _ (List.mem_append_left _ (List.mem_append_left _ (List.mem_append_left _ (List.mem_append_left _ (List.mem_append_left _ (List.mem_append_left _ (List.mem_append_left _ (List.mem_append_left _ (List.mem_of_getElem? (i := 3) rfl))))))))))) rfl (v := .ref (o + 1 + 4)) rfl dX6_set_5 ?_
    refine k_alen hx hb hK (t := 0) rfl (dz_st hP1) dX6_set_8 ?_
    refine k_top (y := nI 5) rfl ?_
    refine k_S (As := [.int (nI 1), .int (nI 5)]) (rest := []) S hK (c_X6_isIndex_n l E 1 5 (by omega) (by omega)) gX6_set_X6_isIndex rfl hd_X6_isIndex ⟨rfl, rfl⟩ ⟨Nat.le_of_ble_eq_true rfl, Nat.le_of_ble_eq_true rfl⟩ trivial rfl hl.1 rfl (Nat.le_of_ble_eq_true rfl) dX6_set_9 ⟨Nat.le_of_ble_eq_true rfl, Nat.le_of_ble_eq_true rfl⟩ ?_
    refine b_ne (tgt := 25) hx hb dX6_set_12 (by decide) (fun c12 => ?_) (fun h => absurd (by omega) h)
    refine lv_iload_n hx hb dX6_set_25 rfl (lv_at hl 2 rfl) ?_
    refine lv_iload_n hx hb dX6_set_26 rfl (lv_at hl 1 rfl) ?_
    refine k_S (As := [.int (nI 1)]) (rest := [.int y]) S hK (c_X6_lowestValue_1 l E) gX6_set_X6_lowestValue rfl hd_X6_lowestValue ⟨rfl, rfl⟩ ⟨Nat.le_of_ble_eq_true rfl, Nat.le_of_ble_eq_true rfl⟩ trivial rfl hl.1 rfl (Nat.le_of_ble_eq_true rfl) dX6_set_27 ⟨Nat.le_of_ble_eq_true rfl, Nat.le_of_ble_eq_true rfl⟩ ?_
    refine lv_iload_n hx hb dX6_set_30 rfl (lv_at hl 1 rfl) ?_
    refine k_S (As := [.int (nI 1)]) (rest := [.int (nI 0), .int y]) S hK (c_X6_highestValue_1 l E) gX6_set_X6_highestValue rfl hd_X6_highestValue ⟨rfl, rfl⟩ ⟨Nat.le_of_ble_eq_true rfl, Nat.le_of_ble_eq_true rfl⟩ trivial rfl hl.1 rfl (Nat.le_of_ble_eq_true rfl) dX6_set_31 ⟨Nat.le_of_ble_eq_true rfl, Nat.le_of_ble_eq_true rfl⟩ ?_
    refine k_S (As := [.int y, .int (nI 0), .int (nI 36)]) (rest := []) S hK (c_X6_requireRange l E 0 36 y (h1.1 (by omega))) gX6_set_X6_requireRange rfl hd_X6_requireRange ⟨rfl, rfl⟩ ⟨Nat.le_of_ble_eq_true rfl, Nat.le_of_ble_eq_true rfl⟩ trivial rfl hl.1 rfl (Nat.le_of_ble_eq_true rfl) dX6_set_34 ⟨Nat.le_of_ble_eq_true rfl, Nat.le_of_ble_eq_true rfl⟩ ?_
    refine lv_aload_n hx hb dX6_set_37 rfl (lv_at hl 0 rfl) ?_
    refine k_get S hK hP0 rfl (fun _ h => List.mem_cons_of_mem _ (List.mem_append_left _ (List.mem_append_left _ (List.mem_append_left _ (List.mem_append_left _ (List.mem_append_left _ (List.mem_append_left _ (List.mem_append_left _ (List.mem_append_right _ (h)))))))))) 2 (by decide) (List.mem_cons_of_mem _ (List.mem_append_left _ (List.mem_append_left _ (List.mem_append_left _ (List.mem_append_left _ (List.mem_append_left _ (List.mem_append_left _ (List.mem_append_left _ (List.mem_append_left _ (List.mem_append_left _ (List.mem_of_getElem? (i := 4) rfl))))))))))) rfl (v := .ref (o + 119)) rfl dX6_set_38 ?_
    refine lv_aload_n hx hb dX6_set_41 rfl (lv_at hl 0 rfl) ?_
    refine k_get S hK hP0 rfl (fun _ h => List.mem_cons_of_mem _ (List.mem_append_left _ (List.mem_append_left _ (List.mem_append_left _ (List.mem_append_left _ (List.mem_append_left _ (List.mem_append_left _ (List.mem_append_left _ (List.mem_append_right _ (h)))))))))) 0 (by decide) (List.mem_cons_of_mem _ (List.mem_append_left _ (List.mem_append_left _ (List.mem_append_left _ (List.mem_append_left _ (List.mem_append_left _ (List.mem_append_left _ (List.mem_append_left _ (List.mem_append_left _ (List.mem_append_left _ (List.mem_of_getElem? (i := 2) rfl))))))))))) rfl (v := .ref (o + 1)) rfl dX6_set_42 ?_
    refine k_VM (As := [.ref (o + 1)]) (rest := []) S hK (c_X2_save l E (o + 119) sn r (o + 1) z (by omega) hI hn6) gX6_set_X2_save rfl hd_X2_save ⟨rfl, rfl⟩ ⟨Nat.le_of_ble_eq_true rfl, Nat.le_of_ble_eq_true rfl⟩ (k_recv hK (hy_at hP3) rfl) ⟨hP3, hP1⟩ rfl hl.1 rfl (Nat.le_of_ble_eq_true rfl) dX6_set_45 ⟨Nat.le_of_ble_eq_true rfl, Nat.le_of_ble_eq_true rfl⟩ hS (fun q h => by exact ⟨by have := h.1; omega, by have := h.2; omega⟩) (fun q h => by exact ⟨by have := h.1; omega, by have := h.2; omega⟩) (fun H locs hQ zH fH hS => ?_)
    have hP := hQ
    have hV1 := hP
    have hk0 := bo_fr2 hP4 (fun q hz hq => fH q hz (bl_ne hq (by omega)))
    have hk1 := gg_fr2 hP0 (fun q hz hq => fH q hz (bl_ne hq (by omega)))
    have hk2 := dz_fr2 hP1 (fun q hz hq => fH q hz (bl_ne hq (by omega)))
    have hk3 := tr_fr2 hP2 (fun q hz hq => fH q hz (bl_ne hq (by omega)))
    refine lv_aload_n hx hb dX6_set_48 rfl (lv_at hl 0 rfl) ?_
    refine k_get S hK hk1 rfl (fun _ h => List.mem_cons_of_mem _ (List.mem_append_left _ (List.mem_append_left _ (List.mem_append_left _ (List.mem_append_left _ (List.mem_append_left _ (List.mem_append_left _ (List.mem_append_left _ (List.mem_append_right _ (h)))))))))) 0 (by decide) (List.mem_cons_of_mem _ (List.mem_append_left _ (List.mem_append_left _ (List.mem_append_left _ (List.mem_append_left _ (List.mem_append_left _ (List.mem_append_left _ (List.mem_append_left _ (List.mem_append_left _ (List.mem_append_left _ (List.mem_of_getElem? (i := 2) rfl))))))))))) rfl (v := .ref (o + 1)) rfl dX6_set_49 ?_
    refine k_get S hK (dz_d hk2) rfl (fun _ h => List.mem_cons_of_mem _ (List.mem_append_left _ (List.mem_append_left _ (List.mem_append_left _ (List.mem_append_left _ (List.mem_append_left _ (List.mem_append_left _ (List.mem_append_right _ (h))))))))) 3 (by decide) (List.mem_cons_of_mem _ (List.mem_append_left _ (List.mem_append_left _ (List.mem_append_left _ (List.mem_append_left _ (List.mem_append_left _ (List.mem_append_left _ (List.mem_append_left _ (List.mem_append_left _ (List.mem_append_left _ (List.mem_of_getElem? (i := 3) rfl))))))))))) rfl (v := .ref (o + 1 + 4)) rfl dX6_set_52 ?_
    refine lv_iload_n hx hb dX6_set_55 rfl (lv_at hl 1 rfl) ?_
    refine k_iald hx hb hK (dz_st hk2) (by omega) (by decide) (v := z 8) rfl dX6_set_56 ?_
    refine lv_istore_n (lv' := [(3, .int (z 8)), (0, .ref o), (1, .int (nI 1)), (2, .int y)]) hx hb dX6_set_57 rfl hl (by decide) rfl (fun ls hl => ?_)
    refine lv_aload_n hx hb dX6_set_58 rfl (lv_at hl 1 rfl) ?_
    refine k_get S hK hk1 rfl (fun _ h => List.mem_cons_of_mem _ (List.mem_append_left _ (List.mem_append_left _ (List.mem_append_left _ (List.mem_append_left _ (List.mem_append_left _ (List.mem_append_left _ (List.mem_append_left _ (List.mem_append_right _ (h)))))))))) 0 (by decide) (List.mem_cons_of_mem _ (List.mem_append_left _ (List.mem_append_left _ (List.mem_append_left _ (List.mem_append_left _ (List.mem_append_left _ (List.mem_append_left _ (List.mem_append_left _ (List.mem_append_left _ (List.mem_append_left _ (List.mem_of_getElem? (i := 2) rfl))))))))))) rfl (v := .ref (o + 1)) rfl dX6_set_59 ?_
    refine k_get S hK (dz_d hk2) rfl (fun _ h => List.mem_cons_of_mem _ (List.mem_append_left _ (List.mem_append_left _ (List.mem_append_left _ (List.mem_append_left _ (List.mem_append_left _ (List.mem_append_left _ (List.mem_append_right _ (h))))))))) 3 (by decide) (List.mem_cons_of_mem _ (List.mem_append_left _ (List.mem_append_left _ (List.mem_append_left _ (List.mem_append_left _ (List.mem_append_left _ (List.mem_append_left _ (List.mem_append_left _ (List.mem_append_left _ (List.mem_append_left _ (List.mem_of_getElem? (i := 3) rfl))))))))))) rfl (v := .ref (o + 1 + 4)) rfl dX6_set_62 ?_
    refine lv_iload_n hx hb dX6_set_65 rfl (lv_at hl 2 rfl) ?_
    refine lv_iload_n hx hb dX6_set_66 rfl (lv_at hl 3 rfl) ?_
    refine dz_astS hx hb hK hk2 (by omega) hS (fun q h => bl_sub h (by omega)) dX6_set_67 (fun H locs hP zH fH hS => ?_)
    have hV2 := hP
    have hk0 := bo_fr2 hk0 (fun q _ hq => fH q (bl_ne hq (by omega)))
    have hk1 := gg_fr2 hk1 (fun q _ hq => fH q (bl_ne hq (by omega)))
    have hk3 := tr_fr2 hk3 (fun q _ hq => fH q (bl_ne hq (by omega)))
    have hk4 := hy_fr2 hV1 (fun q _ hq => fH q (bl_ne hq (by omega)))
    refine lv_iload_n hx hb dX6_set_68 rfl (lv_at hl 0 rfl) ?_
    exact k_iretM hx hb hr hlk dX6_set_69 hS ⟨hk1, (show dz E (o + 1) (seZ z 1 y) _ from hV2), hk3, hk4, hk0⟩ (rfl)
  · have hl : lv_has ls 4 [(0, .ref o), (1, .int (nI 2)), (2, .int y)] := hl
    refine lv_iload_n hx hb dX6_set_0 rfl (lv_at hl 1 rfl) ?_
    refine lv_aload_n hx hb dX6_set_1 rfl (lv_at hl 0 rfl) ?_
    refine k_get S hK hP0 rfl (fun _ h => List.mem_cons_of_mem _ (List.mem_append_left _ (List.mem_append_left _ (List.mem_append_left _ (List.mem_append_left _ (List.mem_append_left _ (List.mem_append_left _ (List.mem_append_left _ (List.mem_append_right _ (h)))))))))) 0 (by decide) (List.mem_cons_of_mem _ (List.mem_append_left _ (List.mem_append_left _ (List.mem_append_left _ (List.mem_append_left _ (List.mem_append_left _ (List.mem_append_left _ (List.mem_append_left _ (List.mem_append_left _ (List.mem_append_left _ (List.mem_of_getElem? (i := 2) rfl))))))))))) rfl (v := .ref (o + 1)) rfl dX6_set_2 ?_
    refine k_get S hK (dz_d hP1) rfl (fun _ h => List.mem_cons_of_mem _ (List.mem_append_left _ (List.mem_append_left _ (List.mem_append_left _ (List.mem_append_left _ (List.mem_append_left _ (List.mem_append_left _ (List.mem_append_right _ (h))))))))) 3 (by decide) (List.mem_cons_of_mem _ (List.mem_append_left _ (List.mem_append_left _ (List.mem_append_left _ (List.mem_append_left _ (List.mem_append_left _ (List.mem_append_left _ (List.mem_append_left _ (List.mem_append_left _ (List.mem_append_left _ (List.mem_of_getElem? (i := 3) rfl))))))))))) rfl (v := .ref (o + 1 + 4)) rfl dX6_set_5 ?_
    refine k_alen hx hb hK (t := 0) rfl (dz_st hP1) dX6_set_8 ?_
    refine k_top (y := nI 5) rfl ?_
    refine k_S (As := [.int (nI 2), .int (nI 5)]) (rest := []) S hK (c_X6_isIndex_n l E 2 5 (by omega) (by omega)) gX6_set_X6_isIndex rfl hd_X6_isIndex ⟨rfl, rfl⟩ ⟨Nat.le_of_ble_eq_true rfl, Nat.le_of_ble_eq_true rfl⟩ trivial rfl hl.1 rfl (Nat.le_of_ble_eq_true rfl) dX6_set_9 ⟨Nat.le_of_ble_eq_true rfl, Nat.le_of_ble_eq_true rfl⟩ ?_
    refine b_ne (tgt := 25) hx hb dX6_set_12 (by decide) (fun c12 => ?_) (fun h => absurd (by omega) h)
    refine lv_iload_n hx hb dX6_set_25 rfl (lv_at hl 2 rfl) ?_
    refine lv_iload_n hx hb dX6_set_26 rfl (lv_at hl 1 rfl) ?_
    refine k_S (As := [.int (nI 2)]) (rest := [.int y]) S hK (c_X6_lowestValue_2 l E) gX6_set_X6_lowestValue rfl hd_X6_lowestValue ⟨rfl, rfl⟩ ⟨Nat.le_of_ble_eq_true rfl, Nat.le_of_ble_eq_true rfl⟩ trivial rfl hl.1 rfl (Nat.le_of_ble_eq_true rfl) dX6_set_27 ⟨Nat.le_of_ble_eq_true rfl, Nat.le_of_ble_eq_true rfl⟩ ?_
    refine lv_iload_n hx hb dX6_set_30 rfl (lv_at hl 1 rfl) ?_
    refine k_S (As := [.int (nI 2)]) (rest := [.int (nI 0), .int y]) S hK (c_X6_highestValue_2 l E) gX6_set_X6_highestValue rfl hd_X6_highestValue ⟨rfl, rfl⟩ ⟨Nat.le_of_ble_eq_true rfl, Nat.le_of_ble_eq_true rfl⟩ trivial rfl hl.1 rfl (Nat.le_of_ble_eq_true rfl) dX6_set_31 ⟨Nat.le_of_ble_eq_true rfl, Nat.le_of_ble_eq_true rfl⟩ ?_
    refine k_S (As := [.int y, .int (nI 0), .int (nI 36)]) (rest := []) S hK (c_X6_requireRange l E 0 36 y (h1.1 (by omega))) gX6_set_X6_requireRange rfl hd_X6_requireRange ⟨rfl, rfl⟩ ⟨Nat.le_of_ble_eq_true rfl, Nat.le_of_ble_eq_true rfl⟩ trivial rfl hl.1 rfl (Nat.le_of_ble_eq_true rfl) dX6_set_34 ⟨Nat.le_of_ble_eq_true rfl, Nat.le_of_ble_eq_true rfl⟩ ?_
    refine lv_aload_n hx hb dX6_set_37 rfl (lv_at hl 0 rfl) ?_
    refine k_get S hK hP0 rfl (fun _ h => List.mem_cons_of_mem _ (List.mem_append_left _ (List.mem_append_left _ (List.mem_append_left _ (List.mem_append_left _ (List.mem_append_left _ (List.mem_append_left _ (List.mem_append_left _ (List.mem_append_right _ (h)))))))))) 2 (by decide) (List.mem_cons_of_mem _ (List.mem_append_left _ (List.mem_append_left _ (List.mem_append_left _ (List.mem_append_left _ (List.mem_append_left _ (List.mem_append_left _ (List.mem_append_left _ (List.mem_append_left _ (List.mem_append_left _ (List.mem_of_getElem? (i := 4) rfl))))))))))) rfl (v := .ref (o + 119)) rfl dX6_set_38 ?_
    refine lv_aload_n hx hb dX6_set_41 rfl (lv_at hl 0 rfl) ?_
    refine k_get S hK hP0 rfl (fun _ h => List.mem_cons_of_mem _ (List.mem_append_left _ (List.mem_append_left _ (List.mem_append_left _ (List.mem_append_left _ (List.mem_append_left _ (List.mem_append_left _ (List.mem_append_left _ (List.mem_append_right _ (h)))))))))) 0 (by decide) (List.mem_cons_of_mem _ (List.mem_append_left _ (List.mem_append_left _ (List.mem_append_left _ (List.mem_append_left _ (List.mem_append_left _ (List.mem_append_left _ (List.mem_append_left _ (List.mem_append_left _ (List.mem_append_left _ (List.mem_of_getElem? (i := 2) rfl))))))))))) rfl (v := .ref (o + 1)) rfl dX6_set_42 ?_
    refine k_VM (As := [.ref (o + 1)]) (rest := []) S hK (c_X2_save l E (o + 119) sn r (o + 1) z (by omega) hI hn6) gX6_set_X2_save rfl hd_X2_save ⟨rfl, rfl⟩ ⟨Nat.le_of_ble_eq_true rfl, Nat.le_of_ble_eq_true rfl⟩ (k_recv hK (hy_at hP3) rfl) ⟨hP3, hP1⟩ rfl hl.1 rfl (Nat.le_of_ble_eq_true rfl) dX6_set_45 ⟨Nat.le_of_ble_eq_true rfl, Nat.le_of_ble_eq_true rfl⟩ hS (fun q h => by exact ⟨by have := h.1; omega, by have := h.2; omega⟩) (fun q h => by exact ⟨by have := h.1; omega, by have := h.2; omega⟩) (fun H locs hQ zH fH hS => ?_)
    have hP := hQ
    have hV1 := hP
    have hk0 := bo_fr2 hP4 (fun q hz hq => fH q hz (bl_ne hq (by omega)))
    have hk1 := gg_fr2 hP0 (fun q hz hq => fH q hz (bl_ne hq (by omega)))
    have hk2 := dz_fr2 hP1 (fun q hz hq => fH q hz (bl_ne hq (by omega)))
    have hk3 := tr_fr2 hP2 (fun q hz hq => fH q hz (bl_ne hq (by omega)))
    refine lv_aload_n hx hb dX6_set_48 rfl (lv_at hl 0 rfl) ?_
    refine k_get S hK hk1 rfl (fun _ h => List.mem_cons_of_mem _ (List.mem_append_left _ (List.mem_append_left _ (List.mem_append_left _ (List.mem_append_left _ (List.mem_append_left _ (List.mem_append_left _ (List.mem_append_left _ (List.mem_append_right _ (h)))))))))) 0 (by decide) (List.mem_cons_of_mem _ (List.mem_append_left _ (List.mem_append_left _ (List.mem_append_left _ (List.mem_append_left _ (List.mem_append_left _ (List.mem_append_left _ (List.mem_append_left _ (List.mem_append_left _ (List.mem_append_left _ (List.mem_of_getElem? (i := 2) rfl))))))))))) rfl (v := .ref (o + 1)) rfl dX6_set_49 ?_
    refine k_get S hK (dz_d hk2) rfl (fun _ h => List.mem_cons_of_mem _ (List.mem_append_left _ (List.mem_append_left _ (List.mem_append_left _ (List.mem_append_left _ (List.mem_append_left _ (List.mem_append_left _ (List.mem_append_right _ (h))))))))) 3 (by decide) (List.mem_cons_of_mem _ (List.mem_append_left _ (List.mem_append_left _ (List.mem_append_left _ (List.mem_append_left _ (List.mem_append_left _ (List.mem_append_left _ (List.mem_append_left _ (List.mem_append_left _ (List.mem_append_left _ (List.mem_of_getElem? (i := 3) rfl))))))))))) rfl (v := .ref (o + 1 + 4)) rfl dX6_set_52 ?_
    refine lv_iload_n hx hb dX6_set_55 rfl (lv_at hl 1 rfl) ?_
    refine k_iald hx hb hK (dz_st hk2) (by omega) (by decide) (v := z 9) rfl dX6_set_56 ?_
    refine lv_istore_n (lv' := [(3, .int (z 9)), (0, .ref o), (1, .int (nI 2)), (2, .int y)]) hx hb dX6_set_57 rfl hl (by decide) rfl (fun ls hl => ?_)
    refine lv_aload_n hx hb dX6_set_58 rfl (lv_at hl 1 rfl) ?_
    refine k_get S hK hk1 rfl (fun _ h => List.mem_cons_of_mem _ (List.mem_append_left _ (List.mem_append_left _ (List.mem_append_left _ (List.mem_append_left _ (List.mem_append_left _ (List.mem_append_left _ (List.mem_append_left _ (List.mem_append_right _ (h)))))))))) 0 (by decide) (List.mem_cons_of_mem _ (List.mem_append_left _ (List.mem_append_left _ (List.mem_append_left _ (List.mem_append_left _ (List.mem_append_left _ (List.mem_append_left _ (List.mem_append_left _ (List.mem_append_left _ (List.mem_append_left _ (List.mem_of_getElem? (i := 2) rfl))))))))))) rfl (v := .ref (o + 1)) rfl dX6_set_59 ?_
    refine k_get S hK (dz_d hk2) rfl (fun _ h => List.mem_cons_of_mem _ (List.mem_append_left _ (List.mem_append_left _ (List.mem_append_left _ (List.mem_append_left _ (List.mem_append_left _ (List.mem_append_left _ (List.mem_append_right _ (h))))))))) 3 (by decide) (List.mem_cons_of_mem _ (List.mem_append_left _ (List.mem_append_left _ (List.mem_append_left _ (List.mem_append_left _ (List.mem_append_left _ (List.mem_append_left _ (List.mem_append_left _ (List.mem_append_left _ (List.mem_append_left _ (List.mem_of_getElem? (i := 3) rfl))))))))))) rfl (v := .ref (o + 1 + 4)) rfl dX6_set_62 ?_
    refine lv_iload_n hx hb dX6_set_65 rfl (lv_at hl 2 rfl) ?_
    refine lv_iload_n hx hb dX6_set_66 rfl (lv_at hl 3 rfl) ?_
    refine dz_astS hx hb hK hk2 (by omega) hS (fun q h => bl_sub h (by omega)) dX6_set_67 (fun H locs hP zH fH hS => ?_)
    have hV2 := hP
    have hk0 := bo_fr2 hk0 (fun q _ hq => fH q (bl_ne hq (by omega)))
    have hk1 := gg_fr2 hk1 (fun q _ hq => fH q (bl_ne hq (by omega)))
    have hk3 := tr_fr2 hk3 (fun q _ hq => fH q (bl_ne hq (by omega)))
    have hk4 := hy_fr2 hV1 (fun q _ hq => fH q (bl_ne hq (by omega)))
    refine lv_iload_n hx hb dX6_set_68 rfl (lv_at hl 0 rfl) ?_
    exact k_iretM hx hb hr hlk dX6_set_69 hS ⟨hk1, (show dz E (o + 1) (seZ z 2 y) _ from hV2), hk3, hk4, hk0⟩ (rfl)
  · have hl : lv_has ls 4 [(0, .ref o), (1, .int (nI 3)), (2, .int y)] := hl
    refine lv_iload_n hx hb dX6_set_0 rfl (lv_at hl 1 rfl) ?_
    refine lv_aload_n hx hb dX6_set_1 rfl (lv_at hl 0 rfl) ?_
    refine k_get S hK hP0 rfl (fun _ h => List.mem_cons_of_mem _ (List.mem_append_left _ (List.mem_append_left _ (List.mem_append_left _ (List.mem_append_left _ (List.mem_append_left _ (List.mem_append_left _ (List.mem_append_left _ (List.mem_append_right _ (h)))))))))) 0 (by decide) (List.mem_cons_of_mem _ (List.mem_append_left _ (List.mem_append_left _ (List.mem_append_left _ (List.mem_append_left _ (List.mem_append_left _ (List.mem_append_left _ (List.mem_append_left _ (List.mem_append_left _ (List.mem_append_left _ (List.mem_of_getElem? (i := 2) rfl))))))))))) rfl (v := .ref (o + 1)) rfl dX6_set_2 ?_
    refine k_get S hK (dz_d hP1) rfl (fun _ h => List.mem_cons_of_mem _ (List.mem_append_left _ (List.mem_append_left _ (List.mem_append_left _ (List.mem_append_left _ (List.mem_append_left _ (List.mem_append_left _ (List.mem_append_right _ (h))))))))) 3 (by decide) (List.mem_cons_of_mem _ (List.mem_append_left _ (List.mem_append_left _ (List.mem_append_left _ (List.mem_append_left _ (List.mem_append_left _ (List.mem_append_left _ (List.mem_append_left _ (List.mem_append_left _ (List.mem_append_left _ (List.mem_of_getElem? (i := 3) rfl))))))))))) rfl (v := .ref (o + 1 + 4)) rfl dX6_set_5 ?_
    refine k_alen hx hb hK (t := 0) rfl (dz_st hP1) dX6_set_8 ?_
    refine k_top (y := nI 5) rfl ?_
    refine k_S (As := [.int (nI 3), .int (nI 5)]) (rest := []) S hK (c_X6_isIndex_n l E 3 5 (by omega) (by omega)) gX6_set_X6_isIndex rfl hd_X6_isIndex ⟨rfl, rfl⟩ ⟨Nat.le_of_ble_eq_true rfl, Nat.le_of_ble_eq_true rfl⟩ trivial rfl hl.1 rfl (Nat.le_of_ble_eq_true rfl) dX6_set_9 ⟨Nat.le_of_ble_eq_true rfl, Nat.le_of_ble_eq_true rfl⟩ ?_
    refine b_ne (tgt := 25) hx hb dX6_set_12 (by decide) (fun c12 => ?_) (fun h => absurd (by omega) h)
    refine lv_iload_n hx hb dX6_set_25 rfl (lv_at hl 2 rfl) ?_
    refine lv_iload_n hx hb dX6_set_26 rfl (lv_at hl 1 rfl) ?_
    refine k_S (As := [.int (nI 3)]) (rest := [.int y]) S hK (c_X6_lowestValue_3 l E) gX6_set_X6_lowestValue rfl hd_X6_lowestValue ⟨rfl, rfl⟩ ⟨Nat.le_of_ble_eq_true rfl, Nat.le_of_ble_eq_true rfl⟩ trivial rfl hl.1 rfl (Nat.le_of_ble_eq_true rfl) dX6_set_27 ⟨Nat.le_of_ble_eq_true rfl, Nat.le_of_ble_eq_true rfl⟩ ?_
    refine lv_iload_n hx hb dX6_set_30 rfl (lv_at hl 1 rfl) ?_
    refine k_S (As := [.int (nI 3)]) (rest := [.int (nI 1), .int y]) S hK (c_X6_highestValue_3 l E) gX6_set_X6_highestValue rfl hd_X6_highestValue ⟨rfl, rfl⟩ ⟨Nat.le_of_ble_eq_true rfl, Nat.le_of_ble_eq_true rfl⟩ trivial rfl hl.1 rfl (Nat.le_of_ble_eq_true rfl) dX6_set_31 ⟨Nat.le_of_ble_eq_true rfl, Nat.le_of_ble_eq_true rfl⟩ ?_
    refine k_S (As := [.int y, .int (nI 1), .int (nI 5)]) (rest := []) S hK (c_X6_requireRange l E 1 5 y (h1.2.1 (by omega))) gX6_set_X6_requireRange rfl hd_X6_requireRange ⟨rfl, rfl⟩ ⟨Nat.le_of_ble_eq_true rfl, Nat.le_of_ble_eq_true rfl⟩ trivial rfl hl.1 rfl (Nat.le_of_ble_eq_true rfl) dX6_set_34 ⟨Nat.le_of_ble_eq_true rfl, Nat.le_of_ble_eq_true rfl⟩ ?_
    refine lv_aload_n hx hb dX6_set_37 rfl (lv_at hl 0 rfl) ?_
    refine k_get S hK hP0 rfl (fun _ h => List.mem_cons_of_mem _ (List.mem_append_left _ (List.mem_append_left _ (List.mem_append_left _ (List.mem_append_left _ (List.mem_append_left _ (List.mem_append_left _ (List.mem_append_left _ (List.mem_append_right _ (h)))))))))) 2 (by decide) (List.mem_cons_of_mem _ (List.mem_append_left _ (List.mem_append_left _ (List.mem_append_left _ (List.mem_append_left _ (List.mem_append_left _ (List.mem_append_left _ (List.mem_append_left _ (List.mem_append_left _ (List.mem_append_left _ (List.mem_of_getElem? (i := 4) rfl))))))))))) rfl (v := .ref (o + 119)) rfl dX6_set_38 ?_
    refine lv_aload_n hx hb dX6_set_41 rfl (lv_at hl 0 rfl) ?_
    refine k_get S hK hP0 rfl (fun _ h => List.mem_cons_of_mem _ (List.mem_append_left _ (List.mem_append_left _ (List.mem_append_left _ (List.mem_append_left _ (List.mem_append_left _ (List.mem_append_left _ (List.mem_append_left _ (List.mem_append_right _ (h)))))))))) 0 (by decide) (List.mem_cons_of_mem _ (List.mem_append_left _ (List.mem_append_left _ (List.mem_append_left _ (List.mem_append_left _ (List.mem_append_left _ (List.mem_append_left _ (List.mem_append_left _ (List.mem_append_left _ (List.mem_append_left _ (List.mem_of_getElem? (i := 2) rfl))))))))))) rfl (v := .ref (o + 1)) rfl dX6_set_42 ?_
    refine k_VM (As := [.ref (o + 1)]) (rest := []) S hK (c_X2_save l E (o + 119) sn r (o + 1) z (by omega) hI hn6) gX6_set_X2_save rfl hd_X2_save ⟨rfl, rfl⟩ ⟨Nat.le_of_ble_eq_true rfl, Nat.le_of_ble_eq_true rfl⟩ (k_recv hK (hy_at hP3) rfl) ⟨hP3, hP1⟩ rfl hl.1 rfl (Nat.le_of_ble_eq_true rfl) dX6_set_45 ⟨Nat.le_of_ble_eq_true rfl, Nat.le_of_ble_eq_true rfl⟩ hS (fun q h => by exact ⟨by have := h.1; omega, by have := h.2; omega⟩) (fun q h => by exact ⟨by have := h.1; omega, by have := h.2; omega⟩) (fun H locs hQ zH fH hS => ?_)
    have hP := hQ
    have hV1 := hP
    have hk0 := bo_fr2 hP4 (fun q hz hq => fH q hz (bl_ne hq (by omega)))
    have hk1 := gg_fr2 hP0 (fun q hz hq => fH q hz (bl_ne hq (by omega)))
    have hk2 := dz_fr2 hP1 (fun q hz hq => fH q hz (bl_ne hq (by omega)))
    have hk3 := tr_fr2 hP2 (fun q hz hq => fH q hz (bl_ne hq (by omega)))
    refine lv_aload_n hx hb dX6_set_48 rfl (lv_at hl 0 rfl) ?_
    refine k_get S hK hk1 rfl (fun _ h => List.mem_cons_of_mem _ (List.mem_append_left _ (List.mem_append_left _ (List.mem_append_left _ (List.mem_append_left _ (List.mem_append_left _ (List.mem_append_left _ (List.mem_append_left _ (List.mem_append_right _ (h)))))))))) 0 (by decide) (List.mem_cons_of_mem _ (List.mem_append_left _ (List.mem_append_left _ (List.mem_append_left _ (List.mem_append_left _ (List.mem_append_left _ (List.mem_append_left _ (List.mem_append_left _ (List.mem_append_left _ (List.mem_append_left _ (List.mem_of_getElem? (i := 2) rfl))))))))))) rfl (v := .ref (o + 1)) rfl dX6_set_49 ?_
    refine k_get S hK (dz_d hk2) rfl (fun _ h => List.mem_cons_of_mem _ (List.mem_append_left _ (List.mem_append_left _ (List.mem_append_left _ (List.mem_append_left _ (List.mem_append_left _ (List.mem_append_left _ (List.mem_append_right _ (h))))))))) 3 (by decide) (List.mem_cons_of_mem _ (List.mem_append_left _ (List.mem_append_left _ (List.mem_append_left _ (List.mem_append_left _ (List.mem_append_left _ (List.mem_append_left _ (List.mem_append_left _ (List.mem_append_left _ (List.mem_append_left _ (List.mem_of_getElem? (i := 3) rfl))))))))))) rfl (v := .ref (o + 1 + 4)) rfl dX6_set_52 ?_
    refine lv_iload_n hx hb dX6_set_55 rfl (lv_at hl 1 rfl) ?_
    refine k_iald hx hb hK (dz_st hk2) (by omega) (by decide) (v := nI (pd z)) (iv_pd hI) dX6_set_56 ?_
    refine lv_istore_n (lv' := [(3, .int (nI (pd z))), (0, .ref o), (1, .int (nI 3)), (2, .int y)]) hx hb dX6_set_57 rfl hl (by decide) rfl (fun ls hl => ?_)
    refine lv_aload_n hx hb dX6_set_58 rfl (lv_at hl 1 rfl) ?_
    refine k_get S hK hk1 rfl (fun _ h => List.mem_cons_of_mem _ (List.mem_append_left _ (List.mem_append_left _ (List.mem_append_left _ (List.mem_append_left _ (List.mem_append_left _ (List.mem_append_left _ (List.mem_append_left _ (List.mem_append_right _ (h)))))))))) 0 (by decide) (List.mem_cons_of_mem _ (List.mem_append_left _ (List.mem_append_left _ (List.mem_append_left _ (List.mem_append_left _ (List.mem_append_left _ (List.mem_append_left _ (List.mem_append_left _ (List.mem_append_left _ (List.mem_append_left _ (List.mem_of_getElem? (i := 2) rfl))))))))))) rfl (v := .ref (o + 1)) rfl dX6_set_59 ?_
    refine k_get S hK (dz_d hk2) rfl (fun _ h => List.mem_cons_of_mem _ (List.mem_append_left _ (List.mem_append_left _ (List.mem_append_left _ (List.mem_append_left _ (List.mem_append_left _ (List.mem_append_left _ (List.mem_append_right _ (h))))))))) 3 (by decide) (List.mem_cons_of_mem _ (List.mem_append_left _ (List.mem_append_left _ (List.mem_append_left _ (List.mem_append_left _ (List.mem_append_left _ (List.mem_append_left _ (List.mem_append_left _ (List.mem_append_left _ (List.mem_append_left _ (List.mem_of_getElem? (i := 3) rfl))))))))))) rfl (v := .ref (o + 1 + 4)) rfl dX6_set_62 ?_
    refine lv_iload_n hx hb dX6_set_65 rfl (lv_at hl 2 rfl) ?_
    refine lv_iload_n hx hb dX6_set_66 rfl (lv_at hl 3 rfl) ?_
    refine dz_astS hx hb hK hk2 (by omega) hS (fun q h => bl_sub h (by omega)) dX6_set_67 (fun H locs hP zH fH hS => ?_)
    have hV2 := hP
    have hk0 := bo_fr2 hk0 (fun q _ hq => fH q (bl_ne hq (by omega)))
    have hk1 := gg_fr2 hk1 (fun q _ hq => fH q (bl_ne hq (by omega)))
    have hk3 := tr_fr2 hk3 (fun q _ hq => fH q (bl_ne hq (by omega)))
    have hk4 := hy_fr2 hV1 (fun q _ hq => fH q (bl_ne hq (by omega)))
    refine lv_iload_n hx hb dX6_set_68 rfl (lv_at hl 0 rfl) ?_
    exact k_iretM hx hb hr hlk dX6_set_69 hS ⟨hk1, (show dz E (o + 1) (seZ z 3 y) _ from hV2), hk3, hk4, hk0⟩ (iv_pd hI)
  · have hl : lv_has ls 4 [(0, .ref o), (1, .int (nI 4)), (2, .int y)] := hl
    refine lv_iload_n hx hb dX6_set_0 rfl (lv_at hl 1 rfl) ?_
    refine lv_aload_n hx hb dX6_set_1 rfl (lv_at hl 0 rfl) ?_
    refine k_get S hK hP0 rfl (fun _ h => List.mem_cons_of_mem _ (List.mem_append_left _ (List.mem_append_left _ (List.mem_append_left _ (List.mem_append_left _ (List.mem_append_left _ (List.mem_append_left _ (List.mem_append_left _ (List.mem_append_right _ (h)))))))))) 0 (by decide) (List.mem_cons_of_mem _ (List.mem_append_left _ (List.mem_append_left _ (List.mem_append_left _ (List.mem_append_left _ (List.mem_append_left _ (List.mem_append_left _ (List.mem_append_left _ (List.mem_append_left _ (List.mem_append_left _ (List.mem_of_getElem? (i := 2) rfl))))))))))) rfl (v := .ref (o + 1)) rfl dX6_set_2 ?_
    refine k_get S hK (dz_d hP1) rfl (fun _ h => List.mem_cons_of_mem _ (List.mem_append_left _ (List.mem_append_left _ (List.mem_append_left _ (List.mem_append_left _ (List.mem_append_left _ (List.mem_append_left _ (List.mem_append_right _ (h))))))))) 3 (by decide) (List.mem_cons_of_mem _ (List.mem_append_left _ (List.mem_append_left _ (List.mem_append_left _ (List.mem_append_left _ (List.mem_append_left _ (List.mem_append_left _ (List.mem_append_left _ (List.mem_append_left _ (List.mem_append_left _ (List.mem_of_getElem? (i := 3) rfl))))))))))) rfl (v := .ref (o + 1 + 4)) rfl dX6_set_5 ?_
    refine k_alen hx hb hK (t := 0) rfl (dz_st hP1) dX6_set_8 ?_
    refine k_top (y := nI 5) rfl ?_
    refine k_S (As := [.int (nI 4), .int (nI 5)]) (rest := []) S hK (c_X6_isIndex_n l E 4 5 (by omega) (by omega)) gX6_set_X6_isIndex rfl hd_X6_isIndex ⟨rfl, rfl⟩ ⟨Nat.le_of_ble_eq_true rfl, Nat.le_of_ble_eq_true rfl⟩ trivial rfl hl.1 rfl (Nat.le_of_ble_eq_true rfl) dX6_set_9 ⟨Nat.le_of_ble_eq_true rfl, Nat.le_of_ble_eq_true rfl⟩ ?_
    refine b_ne (tgt := 25) hx hb dX6_set_12 (by decide) (fun c12 => ?_) (fun h => absurd (by omega) h)
    refine lv_iload_n hx hb dX6_set_25 rfl (lv_at hl 2 rfl) ?_
    refine lv_iload_n hx hb dX6_set_26 rfl (lv_at hl 1 rfl) ?_
    refine k_S (As := [.int (nI 4)]) (rest := [.int y]) S hK (c_X6_lowestValue_4 l E) gX6_set_X6_lowestValue rfl hd_X6_lowestValue ⟨rfl, rfl⟩ ⟨Nat.le_of_ble_eq_true rfl, Nat.le_of_ble_eq_true rfl⟩ trivial rfl hl.1 rfl (Nat.le_of_ble_eq_true rfl) dX6_set_27 ⟨Nat.le_of_ble_eq_true rfl, Nat.le_of_ble_eq_true rfl⟩ ?_
    refine lv_iload_n hx hb dX6_set_30 rfl (lv_at hl 1 rfl) ?_
    refine k_S (As := [.int (nI 4)]) (rest := [.int (nI 0), .int y]) S hK (c_X6_highestValue_4 l E) gX6_set_X6_highestValue rfl hd_X6_highestValue ⟨rfl, rfl⟩ ⟨Nat.le_of_ble_eq_true rfl, Nat.le_of_ble_eq_true rfl⟩ trivial rfl hl.1 rfl (Nat.le_of_ble_eq_true rfl) dX6_set_31 ⟨Nat.le_of_ble_eq_true rfl, Nat.le_of_ble_eq_true rfl⟩ ?_
    refine k_S (As := [.int y, .int (nI 0), .int (nI 20)]) (rest := []) S hK (c_X6_requireRange l E 0 20 y (h1.2.2 (by omega))) gX6_set_X6_requireRange rfl hd_X6_requireRange ⟨rfl, rfl⟩ ⟨Nat.le_of_ble_eq_true rfl, Nat.le_of_ble_eq_true rfl⟩ trivial rfl hl.1 rfl (Nat.le_of_ble_eq_true rfl) dX6_set_34 ⟨Nat.le_of_ble_eq_true rfl, Nat.le_of_ble_eq_true rfl⟩ ?_
    refine lv_aload_n hx hb dX6_set_37 rfl (lv_at hl 0 rfl) ?_
    refine k_get S hK hP0 rfl (fun _ h => List.mem_cons_of_mem _ (List.mem_append_left _ (List.mem_append_left _ (List.mem_append_left _ (List.mem_append_left _ (List.mem_append_left _ (List.mem_append_left _ (List.mem_append_left _ (List.mem_append_right _ (h)))))))))) 2 (by decide) (List.mem_cons_of_mem _ (List.mem_append_left _ (List.mem_append_left _ (List.mem_append_left _ (List.mem_append_left _ (List.mem_append_left _ (List.mem_append_left _ (List.mem_append_left _ (List.mem_append_left _ (List.mem_append_left _ (List.mem_of_getElem? (i := 4) rfl))))))))))) rfl (v := .ref (o + 119)) rfl dX6_set_38 ?_
    refine lv_aload_n hx hb dX6_set_41 rfl (lv_at hl 0 rfl) ?_
    refine k_get S hK hP0 rfl (fun _ h => List.mem_cons_of_mem _ (List.mem_append_left _ (List.mem_append_left _ (List.mem_append_left _ (List.mem_append_left _ (List.mem_append_left _ (List.mem_append_left _ (List.mem_append_left _ (List.mem_append_right _ (h)))))))))) 0 (by decide) (List.mem_cons_of_mem _ (List.mem_append_left _ (List.mem_append_left _ (List.mem_append_left _ (List.mem_append_left _ (List.mem_append_left _ (List.mem_append_left _ (List.mem_append_left _ (List.mem_append_left _ (List.mem_append_left _ (List.mem_of_getElem? (i := 2) rfl))))))))))) rfl (v := .ref (o + 1)) rfl dX6_set_42 ?_
    refine k_VM (As := [.ref (o + 1)]) (rest := []) S hK (c_X2_save l E (o + 119) sn r (o + 1) z (by omega) hI hn6) gX6_set_X2_save rfl hd_X2_save ⟨rfl, rfl⟩ ⟨Nat.le_of_ble_eq_true rfl, Nat.le_of_ble_eq_true rfl⟩ (k_recv hK (hy_at hP3) rfl) ⟨hP3, hP1⟩ rfl hl.1 rfl (Nat.le_of_ble_eq_true rfl) dX6_set_45 ⟨Nat.le_of_ble_eq_true rfl, Nat.le_of_ble_eq_true rfl⟩ hS (fun q h => by exact ⟨by have := h.1; omega, by have := h.2; omega⟩) (fun q h => by exact ⟨by have := h.1; omega, by have := h.2; omega⟩) (fun H locs hQ zH fH hS => ?_)
    have hP := hQ
    have hV1 := hP
    have hk0 := bo_fr2 hP4 (fun q hz hq => fH q hz (bl_ne hq (by omega)))
    have hk1 := gg_fr2 hP0 (fun q hz hq => fH q hz (bl_ne hq (by omega)))
    have hk2 := dz_fr2 hP1 (fun q hz hq => fH q hz (bl_ne hq (by omega)))
    have hk3 := tr_fr2 hP2 (fun q hz hq => fH q hz (bl_ne hq (by omega)))
    refine lv_aload_n hx hb dX6_set_48 rfl (lv_at hl 0 rfl) ?_
    refine k_get S hK hk1 rfl (fun _ h => List.mem_cons_of_mem _ (List.mem_append_left _ (List.mem_append_left _ (List.mem_append_left _ (List.mem_append_left _ (List.mem_append_left _ (List.mem_append_left _ (List.mem_append_left _ (List.mem_append_right _ (h)))))))))) 0 (by decide) (List.mem_cons_of_mem _ (List.mem_append_left _ (List.mem_append_left _ (List.mem_append_left _ (List.mem_append_left _ (List.mem_append_left _ (List.mem_append_left _ (List.mem_append_left _ (List.mem_append_left _ (List.mem_append_left _ (List.mem_of_getElem? (i := 2) rfl))))))))))) rfl (v := .ref (o + 1)) rfl dX6_set_49 ?_
    refine k_get S hK (dz_d hk2) rfl (fun _ h => List.mem_cons_of_mem _ (List.mem_append_left _ (List.mem_append_left _ (List.mem_append_left _ (List.mem_append_left _ (List.mem_append_left _ (List.mem_append_left _ (List.mem_append_right _ (h))))))))) 3 (by decide) (List.mem_cons_of_mem _ (List.mem_append_left _ (List.mem_append_left _ (List.mem_append_left _ (List.mem_append_left _ (List.mem_append_left _ (List.mem_append_left _ (List.mem_append_left _ (List.mem_append_left _ (List.mem_append_left _ (List.mem_of_getElem? (i := 3) rfl))))))))))) rfl (v := .ref (o + 1 + 4)) rfl dX6_set_52 ?_
    refine lv_iload_n hx hb dX6_set_55 rfl (lv_at hl 1 rfl) ?_
    refine k_iald hx hb hK (dz_st hk2) (by omega) (by decide) (v := z 11) rfl dX6_set_56 ?_
    refine lv_istore_n (lv' := [(3, .int (z 11)), (0, .ref o), (1, .int (nI 4)), (2, .int y)]) hx hb dX6_set_57 rfl hl (by decide) rfl (fun ls hl => ?_)
    refine lv_aload_n hx hb dX6_set_58 rfl (lv_at hl 1 rfl) ?_
    refine k_get S hK hk1 rfl (fun _ h => List.mem_cons_of_mem _ (List.mem_append_left _ (List.mem_append_left _ (List.mem_append_left _ (List.mem_append_left _ (List.mem_append_left _ (List.mem_append_left _ (List.mem_append_left _ (List.mem_append_right _ (h)))))))))) 0 (by decide) (List.mem_cons_of_mem _ (List.mem_append_left _ (List.mem_append_left _ (List.mem_append_left _ (List.mem_append_left _ (List.mem_append_left _ (List.mem_append_left _ (List.mem_append_left _ (List.mem_append_left _ (List.mem_append_left _ (List.mem_of_getElem? (i := 2) rfl))))))))))) rfl (v := .ref (o + 1)) rfl dX6_set_59 ?_
    refine k_get S hK (dz_d hk2) rfl (fun _ h => List.mem_cons_of_mem _ (List.mem_append_left _ (List.mem_append_left _ (List.mem_append_left _ (List.mem_append_left _ (List.mem_append_left _ (List.mem_append_left _ (List.mem_append_right _ (h))))))))) 3 (by decide) (List.mem_cons_of_mem _ (List.mem_append_left _ (List.mem_append_left _ (List.mem_append_left _ (List.mem_append_left _ (List.mem_append_left _ (List.mem_append_left _ (List.mem_append_left _ (List.mem_append_left _ (List.mem_append_left _ (List.mem_of_getElem? (i := 3) rfl))))))))))) rfl (v := .ref (o + 1 + 4)) rfl dX6_set_62 ?_
    refine lv_iload_n hx hb dX6_set_65 rfl (lv_at hl 2 rfl) ?_
    refine lv_iload_n hx hb dX6_set_66 rfl (lv_at hl 3 rfl) ?_
    refine dz_astS hx hb hK hk2 (by omega) hS (fun q h => bl_sub h (by omega)) dX6_set_67 (fun H locs hP zH fH hS => ?_)
    have hV2 := hP
    have hk0 := bo_fr2 hk0 (fun q _ hq => fH q (bl_ne hq (by omega)))
    have hk1 := gg_fr2 hk1 (fun q _ hq => fH q (bl_ne hq (by omega)))
    have hk3 := tr_fr2 hk3 (fun q _ hq => fH q (bl_ne hq (by omega)))
    have hk4 := hy_fr2 hV1 (fun q _ hq => fH q (bl_ne hq (by omega)))
    refine lv_iload_n hx hb dX6_set_68 rfl (lv_at hl 0 rfl) ?_
    exact k_iretM hx hb hr hlk dX6_set_69 hS ⟨hk1, (show dz E (o + 1) (seZ z 4 y) _ from hV2), hk3, hk4, hk0⟩ (rfl)
def rm_X6_receive : Room := { frames := 4, cells := 0, slots := 0, locals := 86 }
theorem hd_X6_receive : k_hd1 yX6_receive RX6 2 := by decide +kernel
set_option maxHeartbeats 4000000 in
set_option maxRecDepth 100000 in
theorem c_X6_receive (l : Launch) (E : ke_E) (o : Nat) (z : Nat → Int32) (sn : Nat) (r : Nat → Int32) (bn : Nat) (f : Nat → Int32) (q : Nat) (k : Nat) (hI : iv z) (hn6 : sn ≤ 6) (hq6 : q < 6) (hq4 : k < 4) (h1 : ¬ cn z = 20) : Met l yX6_receive wsX6_receive rm_X6_receive (kp E [.ref o, .int (nI q), .int (nI k)] (fun H => gg E o H ∧ dz E (o + 1) z H ∧ tr E (o + 60) H ∧ hy E (o + 119) sn r H ∧ bo E (o + 475) bn (auE (au f bn)) (auS (au f bn)) f H)) (qm (some (.int (nI (cn z)))) (bl o 477) (fun H => gg E o H ∧ dz E (o + 1) (rcv z q k) H ∧ tr E (o + 60) H ∧ hy E (o + 119) (svN sn) (svR r z sn) H ∧ bo E (o + 475) bn (auE (au f bn)) (auS (au f bn)) f H)) 0 0 (bl o 477) := by
  refine k_hd (cc := cX6_receive) (maxL := 3) (ret := (some .int)) (by decide) rfl (Nat.le_of_ble_eq_true rfl) ?_
  intro p e s m below meth c ls S hr hlk hnm hK hP hl
  have hx := S.1
  have hb := S.2.1
  have hts := S.2.2.2.2
  obtain ⟨hP0, hP1, hP2, hP3, hP4⟩ := hP
  have hl : lv_has ls 3 [(0, .ref o), (1, .int (nI q)), (2, .int (nI k))] := hl
  have hS : va_S (bl o 477) s.heap s.heap [] := va_S.rf
  have hc20 := iv_c hI
  refine lv_aload_n hx hb dX6_receive_0 rfl (lv_at hl 0 rfl) ?_
  refine lv_iload_n hx hb dX6_receive_1 rfl (lv_at hl 1 rfl) ?_
  refine k_V (As := [.int (nI q)]) (rest := []) S hK (c_X6_productNumbered l E o z q hI hq6) gX6_receive_X6_productNumbered rfl hd_X6_productNumbered ⟨rfl, rfl⟩ ⟨Nat.le_of_ble_eq_true rfl, Nat.le_of_ble_eq_true rfl⟩ (k_recv hK hP0 rfl) ⟨hP0, hP1⟩ rfl hl.1 rfl (Nat.le_of_ble_eq_true rfl) dX6_receive_2 ⟨Nat.le_of_ble_eq_true rfl, Nat.le_of_ble_eq_true rfl⟩ ?_
  refine lv_pop hx hb dX6_receive_5 rfl ?_
  refine lv_iload_n hx hb dX6_receive_6 rfl (lv_at hl 2 rfl) ?_
  refine lv_iconst (v := nI 4) hx hb dX6_receive_7 (by decide) ?_
  refine k_S (As := [.int (nI k), .int (nI 4)]) (rest := []) S hK (c_X6_isIndex_n l E k 4 (by omega) (by omega)) gX6_receive_X6_isIndex rfl hd_X6_isIndex ⟨rfl, rfl⟩ ⟨Nat.le_of_ble_eq_true rfl, Nat.le_of_ble_eq_true rfl⟩ trivial rfl hl.1 rfl (Nat.le_of_ble_eq_true rfl) dX6_receive_8 ⟨Nat.le_of_ble_eq_true rfl, Nat.le_of_ble_eq_true rfl⟩ ?_
  refine b_ne (tgt := 24) hx hb dX6_receive_11 (by decide) (fun c11 => ?_) (fun h => absurd hq4 h)
  refine lv_aload_n hx hb dX6_receive_24 rfl (lv_at hl 0 rfl) ?_
  refine k_get S hK hP0 rfl (fun _ h => List.mem_cons_of_mem _ (List.mem_append_left _ (List.mem_append_left _ (List.mem_append_left _ (List.mem_append_left _ (List.mem_append_left _ (List.mem_append_left _ (List.mem_append_left _ (List.mem_append_right _ (h)))))))))) 0 (by decide) (List.mem_cons_of_mem _ (List.mem_append_left _ (List.mem_append_left _ (List.mem_append_left _ (List.mem_append_left _ (List.mem_append_left _ (List.mem_append_left _ (List.mem_append_left _ (List.mem_append_left _ (List.mem_append_left _ (List.mem_of_getElem? (i := 4) rfl))))))))))) rfl (v := .ref (o + 1)) rfl dX6_receive_25 ?_
  refine k_get S hK (dz_d hP1) rfl (fun _ h => List.mem_cons_of_mem _ (List.mem_append_left _ (List.mem_append_left _ (List.mem_append_left _ (List.mem_append_left _ (List.mem_append_left _ (List.mem_append_left _ (List.mem_append_right _ (h))))))))) 4 (by decide) (List.mem_cons_of_mem _ (List.mem_append_left _ (List.mem_append_left _ (List.mem_append_left _ (List.mem_append_left _ (List.mem_append_left _ (List.mem_append_left _ (List.mem_append_left _ (List.mem_append_left _ (List.mem_append_left _ (List.mem_of_getElem? (i := 5) rfl))))))))))) rfl (v := .int (nI (cn z))) (congrArg (fun x => some (Value.int x)) ((iv_n hI))) dX6_receive_28 ?_
  refine lv_bipush (v := nI 20) hx hb dX6_receive_31 (by decide) ?_
  refine n_ilt (tgt := 46) hx hb dX6_receive_33 (by decide) (by omega) (by omega) (fun c33 => ?_) (fun h => absurd h (by omega))
  refine lv_aload_n hx hb dX6_receive_46 rfl (lv_at hl 0 rfl) ?_
  refine k_get S hK hP0 rfl (fun _ h => List.mem_cons_of_mem _ (List.mem_append_left _ (List.mem_append_left _ (List.mem_append_left _ (List.mem_append_left _ (List.mem_append_left _ (List.mem_append_left _ (List.mem_append_left _ (List.mem_append_right _ (h)))))))))) 2 (by decide) (List.mem_cons_of_mem _ (List.mem_append_left _ (List.mem_append_left _ (List.mem_append_left _ (List.mem_append_left _ (List.mem_append_left _ (List.mem_append_left _ (List.mem_append_left _ (List.mem_append_left _ (List.mem_append_left _ (List.mem_of_getElem? (i := 6) rfl))))))))))) rfl (v := .ref (o + 119)) rfl dX6_receive_47 ?_
  refine lv_aload_n hx hb dX6_receive_50 rfl (lv_at hl 0 rfl) ?_
  refine k_get S hK hP0 rfl (fun _ h => List.mem_cons_of_mem _ (List.mem_append_left _ (List.mem_append_left _ (List.mem_append_left _ (List.mem_append_left _ (List.mem_append_left _ (List.mem_append_left _ (List.mem_append_left _ (List.mem_append_right _ (h)))))))))) 0 (by decide) (List.mem_cons_of_mem _ (List.mem_append_left _ (List.mem_append_left _ (List.mem_append_left _ (List.mem_append_left _ (List.mem_append_left _ (List.mem_append_left _ (List.mem_append_left _ (List.mem_append_left _ (List.mem_append_left _ (List.mem_of_getElem? (i := 4) rfl))))))))))) rfl (v := .ref (o + 1)) rfl dX6_receive_51 ?_
  refine k_VM (As := [.ref (o + 1)]) (rest := []) S hK (c_X2_save l E (o + 119) sn r (o + 1) z (by omega) hI hn6) gX6_receive_X2_save rfl hd_X2_save ⟨rfl, rfl⟩ ⟨Nat.le_of_ble_eq_true rfl, Nat.le_of_ble_eq_true rfl⟩ (k_recv hK (hy_at hP3) rfl) ⟨hP3, hP1⟩ rfl hl.1 rfl (Nat.le_of_ble_eq_true rfl) dX6_receive_54 ⟨Nat.le_of_ble_eq_true rfl, Nat.le_of_ble_eq_true rfl⟩ hS (fun q h => by exact ⟨by have := h.1; omega, by have := h.2; omega⟩) (fun q h => by exact ⟨by have := h.1; omega, by have := h.2; omega⟩) (fun H locs hQ zH fH hS => ?_)
  have hP := hQ
  have hV1 := hP
  have hk0 := bo_fr2 hP4 (fun q hz hq => fH q hz (bl_ne hq (by omega)))
  have hk1 := gg_fr2 hP0 (fun q hz hq => fH q hz (bl_ne hq (by omega)))
  have hk2 := dz_fr2 hP1 (fun q hz hq => fH q hz (bl_ne hq (by omega)))
  have hk3 := tr_fr2 hP2 (fun q hz hq => fH q hz (bl_ne hq (by omega)))
  refine lv_aload_n hx hb dX6_receive_57 rfl (lv_at hl 0 rfl) ?_
  refine k_get S hK hk1 rfl (fun _ h => List.mem_cons_of_mem _ (List.mem_append_left _ (List.mem_append_left _ (List.mem_append_left _ (List.mem_append_left _ (List.mem_append_left _ (List.mem_append_left _ (List.mem_append_left _ (List.mem_append_right _ (h)))))))))) 0 (by decide) (List.mem_cons_of_mem _ (List.mem_append_left _ (List.mem_append_left _ (List.mem_append_left _ (List.mem_append_left _ (List.mem_append_left _ (List.mem_append_left _ (List.mem_append_left _ (List.mem_append_left _ (List.mem_append_left _ (List.mem_of_getElem? (i := 4) rfl))))))))))) rfl (v := .ref (o + 1)) rfl dX6_receive_58 ?_
  refine lv_iload_n hx hb dX6_receive_61 rfl (lv_at hl 1 rfl) ?_
  refine lv_iload_n hx hb dX6_receive_62 rfl (lv_at hl 2 rfl) ?_
  refine k_VM (As := [.int (nI q), .int (nI k)]) (rest := []) S hK (c_X1_addUnit l E (o + 1) z q k hI c33) gX6_receive_X1_addUnit rfl hd_X1_addUnit ⟨rfl, rfl⟩ ⟨Nat.le_of_ble_eq_true rfl, Nat.le_of_ble_eq_true rfl⟩ (k_recv hK (dz_d hk2) rfl) hk2 rfl hl.1 rfl (Nat.le_of_ble_eq_true rfl) dX6_receive_63 ⟨Nat.le_of_ble_eq_true rfl, Nat.le_of_ble_eq_true rfl⟩ hS (fun q h => by exact ⟨by have := h.1; omega, by have := h.2; omega⟩) (fun q h => by exact ⟨by have := h.1; omega, by have := h.2; omega⟩) (fun H locs hQ zH fH hS => ?_)
  have hP := hQ
  have hV2 := hP
  have hk0 := bo_fr2 hk0 (fun q hz hq => fH q hz (bl_ne hq (by omega)))
  have hk1 := gg_fr2 hk1 (fun q hz hq => fH q hz (bl_ne hq (by omega)))
  have hk3 := tr_fr2 hk3 (fun q hz hq => fH q hz (bl_ne hq (by omega)))
  have hk4 := hy_fr2 hV1 (fun q hz hq => fH q hz (bl_ne hq (by omega)))
  refine lv_aload_n hx hb dX6_receive_66 rfl (lv_at hl 0 rfl) ?_
  refine k_get S hK hk1 rfl (fun _ h => List.mem_cons_of_mem _ (List.mem_append_left _ (List.mem_append_left _ (List.mem_append_left _ (List.mem_append_left _ (List.mem_append_left _ (List.mem_append_left _ (List.mem_append_left _ (List.mem_append_right _ (h)))))))))) 0 (by decide) (List.mem_cons_of_mem _ (List.mem_append_left _ (List.mem_append_left _ (List.mem_append_left _ (List.mem_append_left _ (List.mem_append_left _ (List.mem_append_left _ (List.mem_append_left _ (List.mem_append_left _ (List.mem_append_left _ (List.mem_of_getElem? (i := 4) rfl))))))))))) rfl (v := .ref (o + 1)) rfl dX6_receive_67 ?_
  refine k_get S hK (dz_d hV2) rfl (fun _ h => List.mem_cons_of_mem _ (List.mem_append_left _ (List.mem_append_left _ (List.mem_append_left _ (List.mem_append_left _ (List.mem_append_left _ (List.mem_append_left _ (List.mem_append_right _ (h))))))))) 4 (by decide) (List.mem_cons_of_mem _ (List.mem_append_left _ (List.mem_append_left _ (List.mem_append_left _ (List.mem_append_left _ (List.mem_append_left _ (List.mem_append_left _ (List.mem_append_left _ (List.mem_append_left _ (List.mem_append_left _ (List.mem_of_getElem? (i := 5) rfl))))))))))) rfl (v := .int (nI (cn z + 1))) (congrArg (fun x => some (Value.int x)) (((iv_n (iv_rcv hI (by omega) hq6 hq4)).trans (congrArg nI (cn_rcv (by omega)))))) dX6_receive_70 ?_
  refine lv_iconst (v := nI 1) hx hb dX6_receive_73 (by decide) ?_
  refine n_isub (n := cn z) hx hb dX6_receive_74 (by omega) ?_
  exact k_iretM hx hb hr hlk dX6_receive_75 hS ⟨hk1, hV2, hk3, hk4, hk0⟩ (rfl)
def rm_X6_test : Room := { frames := 4, cells := 0, slots := 0, locals := 86 }
theorem hd_X6_test : k_hd1 yX6_test RX6 3 := by decide +kernel
set_option maxHeartbeats 4000000 in
set_option maxRecDepth 100000 in
theorem c_X6_test (l : Launch) (E : ke_E) (o : Nat) (z : Nat → Int32) (sn : Nat) (r : Nat → Int32) (bn : Nat) (f : Nat → Int32) (u : Nat) (t : Nat) (y : Int32) (hI : iv z) (hn6 : sn ≤ 6) (hu : u < cn z) (ht4 : t < 4) (h1 : nI 0 ≤ y ∧ y ≤ nI 9) (h2 : z (13*u + 68) = 0) : Met l yX6_test wsX6_test rm_X6_test (kp E [.ref o, .int (nI u), .int (nI t), .int y] (fun H => gg E o H ∧ dz E (o + 1) z H ∧ tr E (o + 60) H ∧ hy E (o + 119) sn r H ∧ bo E (o + 475) bn (auE (au f bn)) (auS (au f bn)) f H)) (qm (some (.int (grT (teZ z u t y) u))) (bl o 477) (fun H => gg E o H ∧ dz E (o + 1) (teZ z u t y) H ∧ tr E (o + 60) H ∧ hy E (o + 119) (svN sn) (svR r z sn) H ∧ bo E (o + 475) bn (auE (au f bn)) (auS (au f bn)) f H)) 0 0 (bl o 477) := by
  refine k_hd (cc := cX6_test) (maxL := 5) (ret := (some .int)) (by decide) rfl (Nat.le_of_ble_eq_true rfl) ?_
  intro p e s m below meth c ls S hr hlk hnm hK hP hl
  have hx := S.1
  have hb := S.2.1
  have hts := S.2.2.2.2
  obtain ⟨hP0, hP1, hP2, hP3, hP4⟩ := hP
  have hl : lv_has ls 5 [(0, .ref o), (1, .int (nI u)), (2, .int (nI t)), (3, .int y)] := hl
  have hS : va_S (bl o 477) s.heap s.heap [] := va_S.rf
  have hc20 := iv_c hI
  refine lv_aload_n hx hb dX6_test_0 rfl (lv_at hl 0 rfl) ?_
  refine lv_iload_n hx hb dX6_test_1 rfl (lv_at hl 1 rfl) ?_
  refine k_V (As := [.int (nI u)]) (rest := []) S hK (c_X6_unitNumbered l E o z u hI hu) gX6_test_X6_unitNumbered rfl hd_X6_unitNumbered ⟨rfl, rfl⟩ ⟨Nat.le_of_ble_eq_true rfl, Nat.le_of_ble_eq_true rfl⟩ (k_recv hK hP0 rfl) ⟨hP0, hP1⟩ rfl hl.1 rfl (Nat.le_of_ble_eq_true rfl) dX6_test_2 ⟨Nat.le_of_ble_eq_true rfl, Nat.le_of_ble_eq_true rfl⟩ ?_
  refine lv_astore (lv' := [(4, .ref (o + 1 + 2*u + 19)), (0, .ref o), (1, .int (nI u)), (2, .int (nI t)), (3, .int y)]) hx hb dX6_test_5 hl (by decide) rfl (fun ls hl => ?_)
  refine lv_iload_n hx hb dX6_test_7 rfl (lv_at hl 3 rfl) ?_
  refine lv_aload hx hb dX6_test_8 (lv_at hl 0 rfl) ?_
  refine k_get S hK (dz_u hP1 u hu) rfl (fun _ h => List.mem_cons_of_mem _ (List.mem_append_left _ (List.mem_append_left _ (List.mem_append_left _ (List.mem_append_left _ (List.mem_append_left _ (List.mem_append_left _ (List.mem_append_left _ (List.mem_append_left _ (List.mem_append_right _ (h))))))))))) 0 (by decide) (List.mem_cons_of_mem _ (List.mem_append_left _ (List.mem_append_left _ (List.mem_append_left _ (List.mem_append_left _ (List.mem_append_left _ (List.mem_append_left _ (List.mem_append_left _ (List.mem_append_left _ (List.mem_append_left _ (List.mem_append_left _ (List.mem_of_getElem? (i := 4) rfl)))))))))))) rfl (v := .ref (o + 1 + 2*u + 20)) rfl dX6_test_10 ?_
  refine k_alen hx hb hK (t := 0) rfl (dz_sc hP1 u hu) dX6_test_13 ?_
  refine k_top (y := nI 4) rfl ?_
  refine k_S (As := [.int (nI t), .int (nI 4)]) (rest := []) S hK (c_X6_isIndex_n l E t 4 (by omega) (by omega)) gX6_test_X6_isIndex rfl hd_X6_isIndex ⟨rfl, rfl⟩ ⟨Nat.le_of_ble_eq_true rfl, Nat.le_of_ble_eq_true rfl⟩ trivial rfl hl.1 rfl (Nat.le_of_ble_eq_true rfl) dX6_test_14 ⟨Nat.le_of_ble_eq_true rfl, Nat.le_of_ble_eq_true rfl⟩ ?_
  refine b_ne (tgt := 30) hx hb dX6_test_17 (by decide) (fun c17 => ?_) (fun h => absurd ht4 h)
  refine lv_iload_n hx hb dX6_test_30 rfl (lv_at hl 4 rfl) ?_
  refine lv_iconst (v := nI 0) hx hb dX6_test_31 (by decide) ?_
  refine lv_bipush (v := nI 9) hx hb dX6_test_32 (by decide) ?_
  refine k_S (As := [.int y, .int (nI 0), .int (nI 9)]) (rest := []) S hK (c_X6_requireRange l E 0 9 y h1) gX6_test_X6_requireRange rfl hd_X6_requireRange ⟨rfl, rfl⟩ ⟨Nat.le_of_ble_eq_true rfl, Nat.le_of_ble_eq_true rfl⟩ trivial rfl hl.1 rfl (Nat.le_of_ble_eq_true rfl) dX6_test_34 ⟨Nat.le_of_ble_eq_true rfl, Nat.le_of_ble_eq_true rfl⟩ ?_
  refine lv_aload hx hb dX6_test_37 (lv_at hl 0 rfl) ?_
  refine k_get S hK (dz_u hP1 u hu) rfl (fun _ h => List.mem_cons_of_mem _ (List.mem_append_left _ (List.mem_append_left _ (List.mem_append_left _ (List.mem_append_left _ (List.mem_append_left _ (List.mem_append_left _ (List.mem_append_left _ (List.mem_append_left _ (List.mem_append_right _ (h))))))))))) 3 (by decide) (List.mem_cons_of_mem _ (List.mem_append_left _ (List.mem_append_left _ (List.mem_append_left _ (List.mem_append_left _ (List.mem_append_left _ (List.mem_append_left _ (List.mem_append_left _ (List.mem_append_left _ (List.mem_append_left _ (List.mem_append_left _ (List.mem_of_getElem? (i := 5) rfl)))))))))))) rfl (v := .int (z (13*u + 68))) rfl dX6_test_39 ?_
  refine lv_if_eq (tgt := 55) hx hb dX6_test_42 (by decide) (fun c42 => ?_) (fun h => absurd h2 h)
  refine lv_aload_n hx hb dX6_test_55 rfl (lv_at hl 1 rfl) ?_
  refine k_get S hK hP0 rfl (fun _ h => List.mem_cons_of_mem _ (List.mem_append_left _ (List.mem_append_left _ (List.mem_append_left _ (List.mem_append_left _ (List.mem_append_left _ (List.mem_append_left _ (List.mem_append_left _ (List.mem_append_right _ (h)))))))))) 2 (by decide) (List.mem_cons_of_mem _ (List.mem_append_left _ (List.mem_append_left _ (List.mem_append_left _ (List.mem_append_left _ (List.mem_append_left _ (List.mem_append_left _ (List.mem_append_left _ (List.mem_append_left _ (List.mem_append_left _ (List.mem_append_left _ (List.mem_of_getElem? (i := 6) rfl)))))))))))) rfl (v := .ref (o + 119)) rfl dX6_test_56 ?_
  refine lv_aload_n hx hb dX6_test_59 rfl (lv_at hl 1 rfl) ?_
  refine k_get S hK hP0 rfl (fun _ h => List.mem_cons_of_mem _ (List.mem_append_left _ (List.mem_append_left _ (List.mem_append_left _ (List.mem_append_left _ (List.mem_append_left _ (List.mem_append_left _ (List.mem_append_left _ (List.mem_append_right _ (h)))))))))) 0 (by decide) (List.mem_cons_of_mem _ (List.mem_append_left _ (List.mem_append_left _ (List.mem_append_left _ (List.mem_append_left _ (List.mem_append_left _ (List.mem_append_left _ (List.mem_append_left _ (List.mem_append_left _ (List.mem_append_left _ (List.mem_append_left _ (List.mem_of_getElem? (i := 7) rfl)))))))))))) rfl (v := .ref (o + 1)) rfl dX6_test_60 ?_
  refine k_VM (As := [.ref (o + 1)]) (rest := []) S hK (c_X2_save l E (o + 119) sn r (o + 1) z (by omega) hI hn6) gX6_test_X2_save rfl hd_X2_save ⟨rfl, rfl⟩ ⟨Nat.le_of_ble_eq_true rfl, Nat.le_of_ble_eq_true rfl⟩ (k_recv hK (hy_at hP3) rfl) ⟨hP3, hP1⟩ rfl hl.1 rfl (Nat.le_of_ble_eq_true rfl) dX6_test_63 ⟨Nat.le_of_ble_eq_true rfl, Nat.le_of_ble_eq_true rfl⟩ hS (fun q h => by exact ⟨by have := h.1; omega, by have := h.2; omega⟩) (fun q h => by exact ⟨by have := h.1; omega, by have := h.2; omega⟩) (fun H locs hQ zH fH hS => ?_)
  have hP := hQ
  have hV1 := hP
  have hk0 := bo_fr2 hP4 (fun q hz hq => fH q hz (bl_ne hq (by omega)))
  have hk1 := gg_fr2 hP0 (fun q hz hq => fH q hz (bl_ne hq (by omega)))
  have hk2 := dz_fr2 hP1 (fun q hz hq => fH q hz (bl_ne hq (by omega)))
  have hk3 := tr_fr2 hP2 (fun q hz hq => fH q hz (bl_ne hq (by omega)))
  refine lv_aload hx hb dX6_test_66 (lv_at hl 0 rfl) ?_
  refine k_get S hK (dz_u hk2 u hu) rfl (fun _ h => List.mem_cons_of_mem _ (List.mem_append_left _ (List.mem_append_left _ (List.mem_append_left _ (List.mem_append_left _ (List.mem_append_left _ (List.mem_append_left _ (List.mem_append_left _ (List.mem_append_left _ (List.mem_append_right _ (h))))))))))) 0 (by decide) (List.mem_cons_of_mem _ (List.mem_append_left _ (List.mem_append_left _ (List.mem_append_left _ (List.mem_append_left _ (List.mem_append_left _ (List.mem_append_left _ (List.mem_append_left _ (List.mem_append_left _ (List.mem_append_left _ (List.mem_append_left _ (List.mem_of_getElem? (i := 4) rfl)))))))))))) rfl (v := .ref (o + 1 + 2*u + 20)) rfl dX6_test_68 ?_
  refine lv_iload_n hx hb dX6_test_71 rfl (lv_at hl 3 rfl) ?_
  refine lv_iload_n hx hb dX6_test_72 rfl (lv_at hl 4 rfl) ?_
  refine dz_astU hu hx hb hK hk2 (by omega) hS (fun q h => bl_sub h (by omega)) dX6_test_73 (fun H locs hP zH fH hS => ?_)
  have hV2 := hP
  have hk0 := bo_fr2 hk0 (fun q _ hq => fH q (bl_ne hq (by omega)))
  have hk1 := gg_fr2 hk1 (fun q _ hq => fH q (bl_ne hq (by omega)))
  have hk3 := tr_fr2 hk3 (fun q _ hq => fH q (bl_ne hq (by omega)))
  have hk4 := hy_fr2 hV1 (fun q _ hq => fH q (bl_ne hq (by omega)))
  refine lv_aload_n hx hb dX6_test_74 rfl (lv_at hl 1 rfl) ?_
  refine k_get S hK hk1 rfl (fun _ h => List.mem_cons_of_mem _ (List.mem_append_left _ (List.mem_append_left _ (List.mem_append_left _ (List.mem_append_left _ (List.mem_append_left _ (List.mem_append_left _ (List.mem_append_left _ (List.mem_append_right _ (h)))))))))) 0 (by decide) (List.mem_cons_of_mem _ (List.mem_append_left _ (List.mem_append_left _ (List.mem_append_left _ (List.mem_append_left _ (List.mem_append_left _ (List.mem_append_left _ (List.mem_append_left _ (List.mem_append_left _ (List.mem_append_left _ (List.mem_append_left _ (List.mem_of_getElem? (i := 7) rfl)))))))))))) rfl (v := .ref (o + 1)) rfl dX6_test_75 ?_
  refine lv_aload hx hb dX6_test_78 (lv_at hl 0 rfl) ?_
  refine k_V (As := [.ref (o + 1 + 2*u + 19)]) (rest := []) S hK (c_X1_gradeOf l E (o + 1) (upd z (13*u + t + 64) y) u (show iv (teZ z u t y) from iv_te9 hI ht4 h1) (by rw [cn_u (by omega)]; exact hu)) gX6_test_X1_gradeOf rfl hd_X1_gradeOf ⟨rfl, rfl⟩ ⟨Nat.le_of_ble_eq_true rfl, Nat.le_of_ble_eq_true rfl⟩ (k_recv hK (dz_d hV2) rfl) hV2 rfl hl.1 rfl (Nat.le_of_ble_eq_true rfl) dX6_test_80 ⟨Nat.le_of_ble_eq_true rfl, Nat.le_of_ble_eq_true rfl⟩ ?_
  exact k_iretM hx hb hr hlk dX6_test_83 hS ⟨hk1, (show dz E (o + 1) (teZ z u t y) _ from hV2), hk3, hk4, hk0⟩ (rfl)
def rm_X6_send_1 : Room := { frames := 4, cells := 0, slots := 0, locals := 86 }
theorem hd_X6_send : k_hd1 yX6_send RX6 2 := by decide +kernel
set_option maxHeartbeats 4000000 in
set_option maxRecDepth 100000 in
theorem c_X6_send_1 (l : Launch) (E : ke_E) (o : Nat) (z : Nat → Int32) (sn : Nat) (r : Nat → Int32) (bn : Nat) (f : Nat → Int32) (u : Nat) (hI : iv z) (hn6 : sn ≤ 6) (hu : u < cn z) (h1 : wy1 z u = 0) : Met l yX6_send wsX6_send rm_X6_send_1 (kp E [.ref o, .int (nI u), .int (nI 1)] (fun H => gg E o H ∧ dz E (o + 1) z H ∧ tr E (o + 60) H ∧ hy E (o + 119) sn r H ∧ bo E (o + 475) bn (auE (au f bn)) (auS (au f bn)) f H)) (qm (some (.int (brg z u 1))) (bl o 477) (fun H => gg E o H ∧ dz E (o + 1) (sdZ z u 1) H ∧ tr E (o + 60) H ∧ hy E (o + 119) (svN sn) (svR r z sn) H ∧ bo E (o + 475) bn (auE (au f bn)) (auS (au f bn)) f H)) 0 0 (bl o 477) := by
  refine k_hd (cc := cX6_send) (maxL := 4) (ret := (some .int)) (by decide) rfl (Nat.le_of_ble_eq_true rfl) ?_
  intro p e s m below meth c ls S hr hlk hnm hK hP hl
  have hx := S.1
  have hb := S.2.1
  have hts := S.2.2.2.2
  obtain ⟨hP0, hP1, hP2, hP3, hP4⟩ := hP
  have hl : lv_has ls 4 [(0, .ref o), (1, .int (nI u)), (2, .int (nI 1))] := hl
  have hS : va_S (bl o 477) s.heap s.heap [] := va_S.rf
  have hc20 := iv_c hI
  refine lv_aload_n hx hb dX6_send_0 rfl (lv_at hl 0 rfl) ?_
  refine lv_iload_n hx hb dX6_send_1 rfl (lv_at hl 1 rfl) ?_
  refine k_V (As := [.int (nI u)]) (rest := []) S hK (c_X6_unitNumbered l E o z u hI hu) gX6_send_X6_unitNumbered rfl hd_X6_unitNumbered ⟨rfl, rfl⟩ ⟨Nat.le_of_ble_eq_true rfl, Nat.le_of_ble_eq_true rfl⟩ (k_recv hK hP0 rfl) ⟨hP0, hP1⟩ rfl hl.1 rfl (Nat.le_of_ble_eq_true rfl) dX6_send_2 ⟨Nat.le_of_ble_eq_true rfl, Nat.le_of_ble_eq_true rfl⟩ ?_
  refine lv_astore_n (lv' := [(3, .ref (o + 1 + 2*u + 19)), (0, .ref o), (1, .int (nI u)), (2, .int (nI 1))]) hx hb dX6_send_5 rfl hl (by decide) rfl (fun ls hl => ?_)
  refine lv_iload_n hx hb dX6_send_6 rfl (lv_at hl 3 rfl) ?_
  refine lv_iconst (v := nI 1) hx hb dX6_send_7 (by decide) ?_
  refine lv_iconst (v := nI 4) hx hb dX6_send_8 (by decide) ?_
  refine k_S (As := [.int (nI 1), .int (nI 1), .int (nI 4)]) (rest := []) S hK (c_X6_requireRange l E 1 4 (nI 1) (in_n (by omega) (by omega) (by omega))) gX6_send_X6_requireRange rfl hd_X6_requireRange ⟨rfl, rfl⟩ ⟨Nat.le_of_ble_eq_true rfl, Nat.le_of_ble_eq_true rfl⟩ trivial rfl hl.1 rfl (Nat.le_of_ble_eq_true rfl) dX6_send_9 ⟨Nat.le_of_ble_eq_true rfl, Nat.le_of_ble_eq_true rfl⟩ ?_
  refine lv_aload_n hx hb dX6_send_12 rfl (lv_at hl 1 rfl) ?_
  refine k_get S hK hP0 rfl (fun _ h => List.mem_cons_of_mem _ (List.mem_append_left _ (List.mem_append_left _ (List.mem_append_left _ (List.mem_append_left _ (List.mem_append_left _ (List.mem_append_left _ (List.mem_append_left _ (List.mem_append_left _ (List.mem_append_right _ (h))))))))))) 0 (by decide) (List.mem_cons_of_mem _ (List.mem_append_left _ (List.mem_append_left _ (List.mem_append_left _ (List.mem_append_left _ (List.mem_append_left _ (List.mem_append_left _ (List.mem_append_left _ (List.mem_append_left _ (List.mem_append_left _ (List.mem_append_left _ (List.mem_of_getElem? (i := 2) rfl)))))))))))) rfl (v := .ref (o + 1)) rfl dX6_send_13 ?_
  refine lv_aload_n hx hb dX6_send_16 rfl (lv_at hl 0 rfl) ?_
  refine lv_iload_n hx hb dX6_send_17 rfl (lv_at hl 3 rfl) ?_
  refine k_V (As := [.ref (o + 1 + 2*u + 19), .int (nI 1)]) (rest := []) S hK (c_X1_obstacle_1 l E (o + 1) z u hI hu) gX6_send_X1_obstacle rfl hd_X1_obstacle ⟨rfl, rfl⟩ ⟨Nat.le_of_ble_eq_true rfl, Nat.le_of_ble_eq_true rfl⟩ (k_recv hK (dz_d hP1) rfl) hP1 rfl hl.1 rfl (Nat.le_of_ble_eq_true rfl) dX6_send_18 ⟨Nat.le_of_ble_eq_true rfl, Nat.le_of_ble_eq_true rfl⟩ ?_
  refine lv_if_eq (tgt := 34) hx hb dX6_send_21 (by decide) (fun c21 => ?_) (fun h => absurd h1 h)
  refine lv_aload_n hx hb dX6_send_34 rfl (lv_at hl 1 rfl) ?_
  refine k_get S hK hP0 rfl (fun _ h => List.mem_cons_of_mem _ (List.mem_append_left _ (List.mem_append_left _ (List.mem_append_left _ (List.mem_append_left _ (List.mem_append_left _ (List.mem_append_left _ (List.mem_append_left _ (List.mem_append_left _ (List.mem_append_right _ (h))))))))))) 2 (by decide) (List.mem_cons_of_mem _ (List.mem_append_left _ (List.mem_append_left _ (List.mem_append_left _ (List.mem_append_left _ (List.mem_append_left _ (List.mem_append_left _ (List.mem_append_left _ (List.mem_append_left _ (List.mem_append_left _ (List.mem_append_left _ (List.mem_of_getElem? (i := 3) rfl)))))))))))) rfl (v := .ref (o + 119)) rfl dX6_send_35 ?_
  refine lv_aload_n hx hb dX6_send_38 rfl (lv_at hl 1 rfl) ?_
  refine k_get S hK hP0 rfl (fun _ h => List.mem_cons_of_mem _ (List.mem_append_left _ (List.mem_append_left _ (List.mem_append_left _ (List.mem_append_left _ (List.mem_append_left _ (List.mem_append_left _ (List.mem_append_left _ (List.mem_append_left _ (List.mem_append_right _ (h))))))))))) 0 (by decide) (List.mem_cons_of_mem _ (List.mem_append_left _ (List.mem_append_left _ (List.mem_append_left _ (List.mem_append_left _ (List.mem_append_left _ (List.mem_append_left _ (List.mem_append_left _ (List.mem_append_left _ (List.mem_append_left _ (List.mem_append_left _ (List.mem_of_getElem? (i := 2) rfl)))))))))))) rfl (v := .ref (o + 1)) rfl dX6_send_39 ?_
  refine k_VM (As := [.ref (o + 1)]) (rest := []) S hK (c_X2_save l E (o + 119) sn r (o + 1) z (by omega) hI hn6) gX6_send_X2_save rfl hd_X2_save ⟨rfl, rfl⟩ ⟨Nat.le_of_ble_eq_true rfl, Nat.le_of_ble_eq_true rfl⟩ (k_recv hK (hy_at hP3) rfl) ⟨hP3, hP1⟩ rfl hl.1 rfl (Nat.le_of_ble_eq_true rfl) dX6_send_42 ⟨Nat.le_of_ble_eq_true rfl, Nat.le_of_ble_eq_true rfl⟩ hS (fun q h => by exact ⟨by have := h.1; omega, by have := h.2; omega⟩) (fun q h => by exact ⟨by have := h.1; omega, by have := h.2; omega⟩) (fun H locs hQ zH fH hS => ?_)
  have hP := hQ
  have hV1 := hP
  have hk0 := bo_fr2 hP4 (fun q hz hq => fH q hz (bl_ne hq (by omega)))
  have hk1 := gg_fr2 hP0 (fun q hz hq => fH q hz (bl_ne hq (by omega)))
  have hk2 := dz_fr2 hP1 (fun q hz hq => fH q hz (bl_ne hq (by omega)))
  have hk3 := tr_fr2 hP2 (fun q hz hq => fH q hz (bl_ne hq (by omega)))
  refine lv_aload_n hx hb dX6_send_45 rfl (lv_at hl 1 rfl) ?_
  refine k_get S hK hk1 rfl (fun _ h => List.mem_cons_of_mem _ (List.mem_append_left _ (List.mem_append_left _ (List.mem_append_left _ (List.mem_append_left _ (List.mem_append_left _ (List.mem_append_left _ (List.mem_append_left _ (List.mem_append_left _ (List.mem_append_right _ (h))))))))))) 0 (by decide) (List.mem_cons_of_mem _ (List.mem_append_left _ (List.mem_append_left _ (List.mem_append_left _ (List.mem_append_left _ (List.mem_append_left _ (List.mem_append_left _ (List.mem_append_left _ (List.mem_append_left _ (List.mem_append_left _ (List.mem_append_left _ (List.mem_of_getElem? (i := 2) rfl)))))))))))) rfl (v := .ref (o + 1)) rfl dX6_send_46 ?_
  refine lv_aload_n hx hb dX6_send_49 rfl (lv_at hl 0 rfl) ?_
  refine lv_iload_n hx hb dX6_send_50 rfl (lv_at hl 3 rfl) ?_
  refine k_VM (As := [.ref (o + 1 + 2*u + 19), .int (nI 1)]) (rest := []) S hK (c_X1_move_1 l E (o + 1) z u hI hu) gX6_send_X1_move rfl hd_X1_move ⟨rfl, rfl⟩ ⟨Nat.le_of_ble_eq_true rfl, Nat.le_of_ble_eq_true rfl⟩ (k_recv hK (dz_d hk2) rfl) hk2 rfl hl.1 rfl (Nat.le_of_ble_eq_true rfl) dX6_send_51 ⟨Nat.le_of_ble_eq_true rfl, Nat.le_of_ble_eq_true rfl⟩ hS (fun q h => by exact ⟨by have := h.1; omega, by have := h.2; omega⟩) (fun q h => by exact ⟨by have := h.1; omega, by have := h.2; omega⟩) (fun H locs hQ zH fH hS => ?_)
  have hP := hQ
  have hV2 := hP
  have hk0 := bo_fr2 hk0 (fun q hz hq => fH q hz (bl_ne hq (by omega)))
  have hk1 := gg_fr2 hk1 (fun q hz hq => fH q hz (bl_ne hq (by omega)))
  have hk3 := tr_fr2 hk3 (fun q hz hq => fH q hz (bl_ne hq (by omega)))
  have hk4 := hy_fr2 hV1 (fun q hz hq => fH q hz (bl_ne hq (by omega)))
  exact k_iretM hx hb hr hlk dX6_send_54 hS ⟨hk1, hV2, hk3, hk4, hk0⟩ (rfl)
def rm_X6_send_2 : Room := { frames := 5, cells := 0, slots := 0, locals := 110 }
set_option maxHeartbeats 4000000 in
set_option maxRecDepth 100000 in
theorem c_X6_send_2 (l : Launch) (E : ke_E) (o : Nat) (z : Nat → Int32) (sn : Nat) (r : Nat → Int32) (bn : Nat) (f : Nat → Int32) (u : Nat) (hI : iv z) (hn6 : sn ≤ 6) (hu : u < cn z) (h1 : wy2 z u = 0) : Met l yX6_send wsX6_send rm_X6_send_2 (kp E [.ref o, .int (nI u), .int (nI 2)] (fun H => gg E o H ∧ dz E (o + 1) z H ∧ tr E (o + 60) H ∧ hy E (o + 119) sn r H ∧ bo E (o + 475) bn (auE (au f bn)) (auS (au f bn)) f H)) (qm (some (.int (brg z u 2))) (bl o 477) (fun H => gg E o H ∧ dz E (o + 1) (sdZ z u 2) H ∧ tr E (o + 60) H ∧ hy E (o + 119) (svN sn) (svR r z sn) H ∧ bo E (o + 475) bn (auE (au f bn)) (auS (au f bn)) f H)) 0 0 (bl o 477) := by
  refine k_hd (cc := cX6_send) (maxL := 4) (ret := (some .int)) (by decide) rfl (Nat.le_of_ble_eq_true rfl) ?_
  intro p e s m below meth c ls S hr hlk hnm hK hP hl
  have hx := S.1
  have hb := S.2.1
  have hts := S.2.2.2.2
  obtain ⟨hP0, hP1, hP2, hP3, hP4⟩ := hP
  have hl : lv_has ls 4 [(0, .ref o), (1, .int (nI u)), (2, .int (nI 2))] := hl
  have hS : va_S (bl o 477) s.heap s.heap [] := va_S.rf
  have hc20 := iv_c hI
  refine lv_aload_n hx hb dX6_send_0 rfl (lv_at hl 0 rfl) ?_
  refine lv_iload_n hx hb dX6_send_1 rfl (lv_at hl 1 rfl) ?_
  refine k_V (As := [.int (nI u)]) (rest := []) S hK (c_X6_unitNumbered l E o z u hI hu) gX6_send_X6_unitNumbered rfl hd_X6_unitNumbered ⟨rfl, rfl⟩ ⟨Nat.le_of_ble_eq_true rfl, Nat.le_of_ble_eq_true rfl⟩ (k_recv hK hP0 rfl) ⟨hP0, hP1⟩ rfl hl.1 rfl (Nat.le_of_ble_eq_true rfl) dX6_send_2 ⟨Nat.le_of_ble_eq_true rfl, Nat.le_of_ble_eq_true rfl⟩ ?_
  refine lv_astore_n (lv' := [(3, .ref (o + 1 + 2*u + 19)), (0, .ref o), (1, .int (nI u)), (2, .int (nI 2))]) hx hb dX6_send_5 rfl hl (by decide) rfl (fun ls hl => ?_)
  refine lv_iload_n hx hb dX6_send_6 rfl (lv_at hl 3 rfl) ?_
  refine lv_iconst (v := nI 1) hx hb dX6_send_7 (by decide) ?_
  refine lv_iconst (v := nI 4) hx hb dX6_send_8 (by decide) ?_
  refine k_S (As := [.int (nI 2), .int (nI 1), .int (nI 4)]) (rest := []) S hK (c_X6_requireRange l E 1 4 (nI 2) (in_n (by omega) (by omega) (by omega))) gX6_send_X6_requireRange rfl hd_X6_requireRange ⟨rfl, rfl⟩ ⟨Nat.le_of_ble_eq_true rfl, Nat.le_of_ble_eq_true rfl⟩ trivial rfl hl.1 rfl (Nat.le_of_ble_eq_true rfl) dX6_send_9 ⟨Nat.le_of_ble_eq_true rfl, Nat.le_of_ble_eq_true rfl⟩ ?_
  refine lv_aload_n hx hb dX6_send_12 rfl (lv_at hl 1 rfl) ?_
  refine k_get S hK hP0 rfl (fun _ h => List.mem_cons_of_mem _ (List.mem_append_left _ (List.mem_append_left _ (List.mem_append_left _ (List.mem_append_left _ (List.mem_append_left _ (List.mem_append_left _ (List.mem_append_left _ (List.mem_append_left _ (List.mem_append_right _ (h))))))))))) 0 (by decide) (List.mem_cons_of_mem _ (List.mem_append_left _ (List.mem_append_left _ (List.mem_append_left _ (List.mem_append_left _ (List.mem_append_left _ (List.mem_append_left _ (List.mem_append_left _ (List.mem_append_left _ (List.mem_append_left _ (List.mem_append_left _ (List.mem_of_getElem? (i := 2) rfl)))))))))))) rfl (v := .ref (o + 1)) rfl dX6_send_13 ?_
  refine lv_aload_n hx hb dX6_send_16 rfl (lv_at hl 0 rfl) ?_
  refine lv_iload_n hx hb dX6_send_17 rfl (lv_at hl 3 rfl) ?_
  refine k_V (As := [.ref (o + 1 + 2*u + 19), .int (nI 2)]) (rest := []) S hK (c_X1_obstacle_2 l E (o + 1) z u hI hu) gX6_send_X1_obstacle rfl hd_X1_obstacle ⟨rfl, rfl⟩ ⟨Nat.le_of_ble_eq_true rfl, Nat.le_of_ble_eq_true rfl⟩ (k_recv hK (dz_d hP1) rfl) hP1 rfl hl.1 rfl (Nat.le_of_ble_eq_true rfl) dX6_send_18 ⟨Nat.le_of_ble_eq_true rfl, Nat.le_of_ble_eq_true rfl⟩ ?_
  refine lv_if_eq (tgt := 34) hx hb dX6_send_21 (by decide) (fun c21 => ?_) (fun h => absurd h1 h)
  refine lv_aload_n hx hb dX6_send_34 rfl (lv_at hl 1 rfl) ?_
  refine k_get S hK hP0 rfl (fun _ h => List.mem_cons_of_mem _ (List.mem_append_left _ (List.mem_append_left _ (List.mem_append_left _ (List.mem_append_left _ (List.mem_append_left _ (List.mem_append_left _ (List.mem_append_left _ (List.mem_append_left _ (List.mem_append_right _ (h))))))))))) 2 (by decide) (List.mem_cons_of_mem _ (List.mem_append_left _ (List.mem_append_left _ (List.mem_append_left _ (List.mem_append_left _ (List.mem_append_left _ (List.mem_append_left _ (List.mem_append_left _ (List.mem_append_left _ (List.mem_append_left _ (List.mem_append_left _ (List.mem_of_getElem? (i := 3) rfl)))))))))))) rfl (v := .ref (o + 119)) rfl dX6_send_35 ?_
  refine lv_aload_n hx hb dX6_send_38 rfl (lv_at hl 1 rfl) ?_
  refine k_get S hK hP0 rfl (fun _ h => List.mem_cons_of_mem _ (List.mem_append_left _ (List.mem_append_left _ (List.mem_append_left _ (List.mem_append_left _ (List.mem_append_left _ (List.mem_append_left _ (List.mem_append_left _ (List.mem_append_left _ (List.mem_append_right _ (h))))))))))) 0 (by decide) (List.mem_cons_of_mem _ (List.mem_append_left _ (List.mem_append_left _ (List.mem_append_left _ (List.mem_append_left _ (List.mem_append_left _ (List.mem_append_left _ (List.mem_append_left _ (List.mem_append_left _ (List.mem_append_left _ (List.mem_append_left _ (List.mem_of_getElem? (i := 2) rfl)))))))))))) rfl (v := .ref (o + 1)) rfl dX6_send_39 ?_
  refine k_VM (As := [.ref (o + 1)]) (rest := []) S hK (c_X2_save l E (o + 119) sn r (o + 1) z (by omega) hI hn6) gX6_send_X2_save rfl hd_X2_save ⟨rfl, rfl⟩ ⟨Nat.le_of_ble_eq_true rfl, Nat.le_of_ble_eq_true rfl⟩ (k_recv hK (hy_at hP3) rfl) ⟨hP3, hP1⟩ rfl hl.1 rfl (Nat.le_of_ble_eq_true rfl) dX6_send_42 ⟨Nat.le_of_ble_eq_true rfl, Nat.le_of_ble_eq_true rfl⟩ hS (fun q h => by exact ⟨by have := h.1; omega, by have := h.2; omega⟩) (fun q h => by exact ⟨by have := h.1; omega, by have := h.2; omega⟩) (fun H locs hQ zH fH hS => ?_)
  have hP := hQ
  have hV1 := hP
  have hk0 := bo_fr2 hP4 (fun q hz hq => fH q hz (bl_ne hq (by omega)))
  have hk1 := gg_fr2 hP0 (fun q hz hq => fH q hz (bl_ne hq (by omega)))
  have hk2 := dz_fr2 hP1 (fun q hz hq => fH q hz (bl_ne hq (by omega)))
  have hk3 := tr_fr2 hP2 (fun q hz hq => fH q hz (bl_ne hq (by omega)))
  refine lv_aload_n hx hb dX6_send_45 rfl (lv_at hl 1 rfl) ?_
  refine k_get S hK hk1 rfl (fun _ h => List.mem_cons_of_mem _ (List.mem_append_left _ (List.mem_append_left _ (List.mem_append_left _ (List.mem_append_left _ (List.mem_append_left _ (List.mem_append_left _ (List.mem_append_left _ (List.mem_append_left _ (List.mem_append_right _ (h))))))))))) 0 (by decide) (List.mem_cons_of_mem _ (List.mem_append_left _ (List.mem_append_left _ (List.mem_append_left _ (List.mem_append_left _ (List.mem_append_left _ (List.mem_append_left _ (List.mem_append_left _ (List.mem_append_left _ (List.mem_append_left _ (List.mem_append_left _ (List.mem_of_getElem? (i := 2) rfl)))))))))))) rfl (v := .ref (o + 1)) rfl dX6_send_46 ?_
  refine lv_aload_n hx hb dX6_send_49 rfl (lv_at hl 0 rfl) ?_
  refine lv_iload_n hx hb dX6_send_50 rfl (lv_at hl 3 rfl) ?_
  refine k_VM (As := [.ref (o + 1 + 2*u + 19), .int (nI 2)]) (rest := []) S hK (c_X1_move_2 l E (o + 1) z u hI hu (wy2_t h1)) gX6_send_X1_move rfl hd_X1_move ⟨rfl, rfl⟩ ⟨Nat.le_of_ble_eq_true rfl, Nat.le_of_ble_eq_true rfl⟩ (k_recv hK (dz_d hk2) rfl) hk2 rfl hl.1 rfl (Nat.le_of_ble_eq_true rfl) dX6_send_51 ⟨Nat.le_of_ble_eq_true rfl, Nat.le_of_ble_eq_true rfl⟩ hS (fun q h => by exact ⟨by have := h.1; omega, by have := h.2; omega⟩) (fun q h => by exact ⟨by have := h.1; omega, by have := h.2; omega⟩) (fun H locs hQ zH fH hS => ?_)
  have hP := hQ
  have hV2 := hP
  have hk0 := bo_fr2 hk0 (fun q hz hq => fH q hz (bl_ne hq (by omega)))
  have hk1 := gg_fr2 hk1 (fun q hz hq => fH q hz (bl_ne hq (by omega)))
  have hk3 := tr_fr2 hk3 (fun q hz hq => fH q hz (bl_ne hq (by omega)))
  have hk4 := hy_fr2 hV1 (fun q hz hq => fH q hz (bl_ne hq (by omega)))
  exact k_iretM hx hb hr hlk dX6_send_54 hS ⟨hk1, hV2, hk3, hk4, hk0⟩ (rfl)
def rm_X6_send_3 : Room := { frames := 4, cells := 0, slots := 0, locals := 86 }
set_option maxHeartbeats 4000000 in
set_option maxRecDepth 100000 in
theorem c_X6_send_3 (l : Launch) (E : ke_E) (o : Nat) (z : Nat → Int32) (sn : Nat) (r : Nat → Int32) (bn : Nat) (f : Nat → Int32) (u : Nat) (hI : iv z) (hn6 : sn ≤ 6) (hu : u < cn z) (h1 : wy3 z u = 0) : Met l yX6_send wsX6_send rm_X6_send_3 (kp E [.ref o, .int (nI u), .int (nI 3)] (fun H => gg E o H ∧ dz E (o + 1) z H ∧ tr E (o + 60) H ∧ hy E (o + 119) sn r H ∧ bo E (o + 475) bn (auE (au f bn)) (auS (au f bn)) f H)) (qm (some (.int (brg z u 3))) (bl o 477) (fun H => gg E o H ∧ dz E (o + 1) (sdZ z u 3) H ∧ tr E (o + 60) H ∧ hy E (o + 119) (svN sn) (svR r z sn) H ∧ bo E (o + 475) bn (auE (au f bn)) (auS (au f bn)) f H)) 0 0 (bl o 477) := by
  refine k_hd (cc := cX6_send) (maxL := 4) (ret := (some .int)) (by decide) rfl (Nat.le_of_ble_eq_true rfl) ?_
  intro p e s m below meth c ls S hr hlk hnm hK hP hl
  have hx := S.1
  have hb := S.2.1
  have hts := S.2.2.2.2
  obtain ⟨hP0, hP1, hP2, hP3, hP4⟩ := hP
  have hl : lv_has ls 4 [(0, .ref o), (1, .int (nI u)), (2, .int (nI 3))] := hl
  have hS : va_S (bl o 477) s.heap s.heap [] := va_S.rf
  have hc20 := iv_c hI
  refine lv_aload_n hx hb dX6_send_0 rfl (lv_at hl 0 rfl) ?_
  refine lv_iload_n hx hb dX6_send_1 rfl (lv_at hl 1 rfl) ?_
  refine k_V (As := [.int (nI u)]) (rest := []) S hK (c_X6_unitNumbered l E o z u hI hu) gX6_send_X6_unitNumbered rfl hd_X6_unitNumbered ⟨rfl, rfl⟩ ⟨Nat.le_of_ble_eq_true rfl, Nat.le_of_ble_eq_true rfl⟩ (k_recv hK hP0 rfl) ⟨hP0, hP1⟩ rfl hl.1 rfl (Nat.le_of_ble_eq_true rfl) dX6_send_2 ⟨Nat.le_of_ble_eq_true rfl, Nat.le_of_ble_eq_true rfl⟩ ?_
  refine lv_astore_n (lv' := [(3, .ref (o + 1 + 2*u + 19)), (0, .ref o), (1, .int (nI u)), (2, .int (nI 3))]) hx hb dX6_send_5 rfl hl (by decide) rfl (fun ls hl => ?_)
  refine lv_iload_n hx hb dX6_send_6 rfl (lv_at hl 3 rfl) ?_
  refine lv_iconst (v := nI 1) hx hb dX6_send_7 (by decide) ?_
  refine lv_iconst (v := nI 4) hx hb dX6_send_8 (by decide) ?_
  refine k_S (As := [.int (nI 3), .int (nI 1), .int (nI 4)]) (rest := []) S hK (c_X6_requireRange l E 1 4 (nI 3) (in_n (by omega) (by omega) (by omega))) gX6_send_X6_requireRange rfl hd_X6_requireRange ⟨rfl, rfl⟩ ⟨Nat.le_of_ble_eq_true rfl, Nat.le_of_ble_eq_true rfl⟩ trivial rfl hl.1 rfl (Nat.le_of_ble_eq_true rfl) dX6_send_9 ⟨Nat.le_of_ble_eq_true rfl, Nat.le_of_ble_eq_true rfl⟩ ?_
  refine lv_aload_n hx hb dX6_send_12 rfl (lv_at hl 1 rfl) ?_
  refine k_get S hK hP0 rfl (fun _ h => List.mem_cons_of_mem _ (List.mem_append_left _ (List.mem_append_left _ (List.mem_append_left _ (List.mem_append_left _ (List.mem_append_left _ (List.mem_append_left _ (List.mem_append_left _ (List.mem_append_left _ (List.mem_append_right _ (h))))))))))) 0 (by decide) (List.mem_cons_of_mem _ (List.mem_append_left _ (List.mem_append_left _ (List.mem_append_left _ (List.mem_append_left _ (List.mem_append_left _ (List.mem_append_left _ (List.mem_append_left _ (List.mem_append_left _ (List.mem_append_left _ (List.mem_append_left _ (List.mem_of_getElem? (i := 2) rfl)))))))))))) rfl (v := .ref (o + 1)) rfl dX6_send_13 ?_
  refine lv_aload_n hx hb dX6_send_16 rfl (lv_at hl 0 rfl) ?_
  refine lv_iload_n hx hb dX6_send_17 rfl (lv_at hl 3 rfl) ?_
  refine k_V (As := [.ref (o + 1 + 2*u + 19), .int (nI 3)]) (rest := []) S hK (c_X1_obstacle_3 l E (o + 1) z u hI hu) gX6_send_X1_obstacle rfl hd_X1_obstacle ⟨rfl, rfl⟩ ⟨Nat.le_of_ble_eq_true rfl, Nat.le_of_ble_eq_true rfl⟩ (k_recv hK (dz_d hP1) rfl) hP1 rfl hl.1 rfl (Nat.le_of_ble_eq_true rfl) dX6_send_18 ⟨Nat.le_of_ble_eq_true rfl, Nat.le_of_ble_eq_true rfl⟩ ?_
  refine lv_if_eq (tgt := 34) hx hb dX6_send_21 (by decide) (fun c21 => ?_) (fun h => absurd h1 h)
  refine lv_aload_n hx hb dX6_send_34 rfl (lv_at hl 1 rfl) ?_
  refine k_get S hK hP0 rfl (fun _ h => List.mem_cons_of_mem _ (List.mem_append_left _ (List.mem_append_left _ (List.mem_append_left _ (List.mem_append_left _ (List.mem_append_left _ (List.mem_append_left _ (List.mem_append_left _ (List.mem_append_left _ (List.mem_append_right _ (h))))))))))) 2 (by decide) (List.mem_cons_of_mem _ (List.mem_append_left _ (List.mem_append_left _ (List.mem_append_left _ (List.mem_append_left _ (List.mem_append_left _ (List.mem_append_left _ (List.mem_append_left _ (List.mem_append_left _ (List.mem_append_left _ (List.mem_append_left _ (List.mem_of_getElem? (i := 3) rfl)))))))))))) rfl (v := .ref (o + 119)) rfl dX6_send_35 ?_
  refine lv_aload_n hx hb dX6_send_38 rfl (lv_at hl 1 rfl) ?_
  refine k_get S hK hP0 rfl (fun _ h => List.mem_cons_of_mem _ (List.mem_append_left _ (List.mem_append_left _ (List.mem_append_left _ (List.mem_append_left _ (List.mem_append_left _ (List.mem_append_left _ (List.mem_append_left _ (List.mem_append_left _ (List.mem_append_right _ (h))))))))))) 0 (by decide) (List.mem_cons_of_mem _ (List.mem_append_left _ (List.mem_append_left _ (List.mem_append_left _ (List.mem_append_left _ (List.mem_append_left _ (List.mem_append_left _ (List.mem_append_left _ (List.mem_append_left _ (List.mem_append_left _ (List.mem_append_left _ (List.mem_of_getElem? (i := 2) rfl)))))))))))) rfl (v := .ref (o + 1)) rfl dX6_send_39 ?_
  refine k_VM (As := [.ref (o + 1)]) (rest := []) S hK (c_X2_save l E (o + 119) sn r (o + 1) z (by omega) hI hn6) gX6_send_X2_save rfl hd_X2_save ⟨rfl, rfl⟩ ⟨Nat.le_of_ble_eq_true rfl, Nat.le_of_ble_eq_true rfl⟩ (k_recv hK (hy_at hP3) rfl) ⟨hP3, hP1⟩ rfl hl.1 rfl (Nat.le_of_ble_eq_true rfl) dX6_send_42 ⟨Nat.le_of_ble_eq_true rfl, Nat.le_of_ble_eq_true rfl⟩ hS (fun q h => by exact ⟨by have := h.1; omega, by have := h.2; omega⟩) (fun q h => by exact ⟨by have := h.1; omega, by have := h.2; omega⟩) (fun H locs hQ zH fH hS => ?_)
  have hP := hQ
  have hV1 := hP
  have hk0 := bo_fr2 hP4 (fun q hz hq => fH q hz (bl_ne hq (by omega)))
  have hk1 := gg_fr2 hP0 (fun q hz hq => fH q hz (bl_ne hq (by omega)))
  have hk2 := dz_fr2 hP1 (fun q hz hq => fH q hz (bl_ne hq (by omega)))
  have hk3 := tr_fr2 hP2 (fun q hz hq => fH q hz (bl_ne hq (by omega)))
  refine lv_aload_n hx hb dX6_send_45 rfl (lv_at hl 1 rfl) ?_
  refine k_get S hK hk1 rfl (fun _ h => List.mem_cons_of_mem _ (List.mem_append_left _ (List.mem_append_left _ (List.mem_append_left _ (List.mem_append_left _ (List.mem_append_left _ (List.mem_append_left _ (List.mem_append_left _ (List.mem_append_left _ (List.mem_append_right _ (h))))))))))) 0 (by decide) (List.mem_cons_of_mem _ (List.mem_append_left _ (List.mem_append_left _ (List.mem_append_left _ (List.mem_append_left _ (List.mem_append_left _ (List.mem_append_left _ (List.mem_append_left _ (List.mem_append_left _ (List.mem_append_left _ (List.mem_append_left _ (List.mem_of_getElem? (i := 2) rfl)))))))))))) rfl (v := .ref (o + 1)) rfl dX6_send_46 ?_
  refine lv_aload_n hx hb dX6_send_49 rfl (lv_at hl 0 rfl) ?_
  refine lv_iload_n hx hb dX6_send_50 rfl (lv_at hl 3 rfl) ?_
  refine k_VM (As := [.ref (o + 1 + 2*u + 19), .int (nI 3)]) (rest := []) S hK (c_X1_move_3 l E (o + 1) z u hI hu) gX6_send_X1_move rfl hd_X1_move ⟨rfl, rfl⟩ ⟨Nat.le_of_ble_eq_true rfl, Nat.le_of_ble_eq_true rfl⟩ (k_recv hK (dz_d hk2) rfl) hk2 rfl hl.1 rfl (Nat.le_of_ble_eq_true rfl) dX6_send_51 ⟨Nat.le_of_ble_eq_true rfl, Nat.le_of_ble_eq_true rfl⟩ hS (fun q h => by exact ⟨by have := h.1; omega, by have := h.2; omega⟩) (fun q h => by exact ⟨by have := h.1; omega, by have := h.2; omega⟩) (fun H locs hQ zH fH hS => ?_)
  have hP := hQ
  have hV2 := hP
  have hk0 := bo_fr2 hk0 (fun q hz hq => fH q hz (bl_ne hq (by omega)))
  have hk1 := gg_fr2 hk1 (fun q hz hq => fH q hz (bl_ne hq (by omega)))
  have hk3 := tr_fr2 hk3 (fun q hz hq => fH q hz (bl_ne hq (by omega)))
  have hk4 := hy_fr2 hV1 (fun q hz hq => fH q hz (bl_ne hq (by omega)))
  exact k_iretM hx hb hr hlk dX6_send_54 hS ⟨hk1, hV2, hk3, hk4, hk0⟩ (rfl)
def rm_X6_send_4 : Room := { frames := 4, cells := 0, slots := 0, locals := 87 }
set_option maxHeartbeats 4000000 in
set_option maxRecDepth 100000 in
theorem c_X6_send_4 (l : Launch) (E : ke_E) (o : Nat) (z : Nat → Int32) (sn : Nat) (r : Nat → Int32) (bn : Nat) (f : Nat → Int32) (u : Nat) (hI : iv z) (hn6 : sn ≤ 6) (hu : u < cn z) (h1 : wy4 z u = 0) : Met l yX6_send wsX6_send rm_X6_send_4 (kp E [.ref o, .int (nI u), .int (nI 4)] (fun H => gg E o H ∧ dz E (o + 1) z H ∧ tr E (o + 60) H ∧ hy E (o + 119) sn r H ∧ bo E (o + 475) bn (auE (au f bn)) (auS (au f bn)) f H)) (qm (some (.int (brg z u 4))) (bl o 477) (fun H => gg E o H ∧ dz E (o + 1) (sdZ z u 4) H ∧ tr E (o + 60) H ∧ hy E (o + 119) (svN sn) (svR r z sn) H ∧ bo E (o + 475) bn (auE (au f bn)) (auS (au f bn)) f H)) 0 0 (bl o 477) := by
  refine k_hd (cc := cX6_send) (maxL := 4) (ret := (some .int)) (by decide) rfl (Nat.le_of_ble_eq_true rfl) ?_
  intro p e s m below meth c ls S hr hlk hnm hK hP hl
  have hx := S.1
  have hb := S.2.1
  have hts := S.2.2.2.2
  obtain ⟨hP0, hP1, hP2, hP3, hP4⟩ := hP
  have hl : lv_has ls 4 [(0, .ref o), (1, .int (nI u)), (2, .int (nI 4))] := hl
  have hS : va_S (bl o 477) s.heap s.heap [] := va_S.rf
  have hc20 := iv_c hI
  refine lv_aload_n hx hb dX6_send_0 rfl (lv_at hl 0 rfl) ?_
  refine lv_iload_n hx hb dX6_send_1 rfl (lv_at hl 1 rfl) ?_
  refine k_V (As := [.int (nI u)]) (rest := []) S hK (c_X6_unitNumbered l E o z u hI hu) gX6_send_X6_unitNumbered rfl hd_X6_unitNumbered ⟨rfl, rfl⟩ ⟨Nat.le_of_ble_eq_true rfl, Nat.le_of_ble_eq_true rfl⟩ (k_recv hK hP0 rfl) ⟨hP0, hP1⟩ rfl hl.1 rfl (Nat.le_of_ble_eq_true rfl) dX6_send_2 ⟨Nat.le_of_ble_eq_true rfl, Nat.le_of_ble_eq_true rfl⟩ ?_
  refine lv_astore_n (lv' := [(3, .ref (o + 1 + 2*u + 19)), (0, .ref o), (1, .int (nI u)), (2, .int (nI 4))]) hx hb dX6_send_5 rfl hl (by decide) rfl (fun ls hl => ?_)
  refine lv_iload_n hx hb dX6_send_6 rfl (lv_at hl 3 rfl) ?_
  refine lv_iconst (v := nI 1) hx hb dX6_send_7 (by decide) ?_
  refine lv_iconst (v := nI 4) hx hb dX6_send_8 (by decide) ?_
  refine k_S (As := [.int (nI 4), .int (nI 1), .int (nI 4)]) (rest := []) S hK (c_X6_requireRange l E 1 4 (nI 4) (in_n (by omega) (by omega) (by omega))) gX6_send_X6_requireRange rfl hd_X6_requireRange ⟨rfl, rfl⟩ ⟨Nat.le_of_ble_eq_true rfl, Nat.le_of_ble_eq_true rfl⟩ trivial rfl hl.1 rfl (Nat.le_of_ble_eq_true rfl) dX6_send_9 ⟨Nat.le_of_ble_eq_true rfl, Nat.le_of_ble_eq_true rfl⟩ ?_
  refine lv_aload_n hx hb dX6_send_12 rfl (lv_at hl 1 rfl) ?_
  refine k_get S hK hP0 rfl (fun _ h => List.mem_cons_of_mem _ (List.mem_append_left _ (List.mem_append_left _ (List.mem_append_left _ (List.mem_append_left _ (List.mem_append_left _ (List.mem_append_left _ (List.mem_append_left _ (List.mem_append_left _ (List.mem_append_right _ (h))))))))))) 0 (by decide) (List.mem_cons_of_mem _ (List.mem_append_left _ (List.mem_append_left _ (List.mem_append_left _ (List.mem_append_left _ (List.mem_append_left _ (List.mem_append_left _ (List.mem_append_left _ (List.mem_append_left _ (List.mem_append_left _ (List.mem_append_left _ (List.mem_of_getElem? (i := 2) rfl)))))))))))) rfl (v := .ref (o + 1)) rfl dX6_send_13 ?_
  refine lv_aload_n hx hb dX6_send_16 rfl (lv_at hl 0 rfl) ?_
  refine lv_iload_n hx hb dX6_send_17 rfl (lv_at hl 3 rfl) ?_
  refine k_V (As := [.ref (o + 1 + 2*u + 19), .int (nI 4)]) (rest := []) S hK (c_X1_obstacle_4 l E (o + 1) z u hI hu) gX6_send_X1_obstacle rfl hd_X1_obstacle ⟨rfl, rfl⟩ ⟨Nat.le_of_ble_eq_true rfl, Nat.le_of_ble_eq_true rfl⟩ (k_recv hK (dz_d hP1) rfl) hP1 rfl hl.1 rfl (Nat.le_of_ble_eq_true rfl) dX6_send_18 ⟨Nat.le_of_ble_eq_true rfl, Nat.le_of_ble_eq_true rfl⟩ ?_
  refine lv_if_eq (tgt := 34) hx hb dX6_send_21 (by decide) (fun c21 => ?_) (fun h => absurd h1 h)
  refine lv_aload_n hx hb dX6_send_34 rfl (lv_at hl 1 rfl) ?_
  refine k_get S hK hP0 rfl (fun _ h => List.mem_cons_of_mem _ (List.mem_append_left _ (List.mem_append_left _ (List.mem_append_left _ (List.mem_append_left _ (List.mem_append_left _ (List.mem_append_left _ (List.mem_append_left _ (List.mem_append_left _ (List.mem_append_right _ (h))))))))))) 2 (by decide) (List.mem_cons_of_mem _ (List.mem_append_left _ (List.mem_append_left _ (List.mem_append_left _ (List.mem_append_left _ (List.mem_append_left _ (List.mem_append_left _ (List.mem_append_left _ (List.mem_append_left _ (List.mem_append_left _ (List.mem_append_left _ (List.mem_of_getElem? (i := 3) rfl)))))))))))) rfl (v := .ref (o + 119)) rfl dX6_send_35 ?_
  refine lv_aload_n hx hb dX6_send_38 rfl (lv_at hl 1 rfl) ?_
  refine k_get S hK hP0 rfl (fun _ h => List.mem_cons_of_mem _ (List.mem_append_left _ (List.mem_append_left _ (List.mem_append_left _ (List.mem_append_left _ (List.mem_append_left _ (List.mem_append_left _ (List.mem_append_left _ (List.mem_append_left _ (List.mem_append_right _ (h))))))))))) 0 (by decide) (List.mem_cons_of_mem _ (List.mem_append_left _ (List.mem_append_left _ (List.mem_append_left _ (List.mem_append_left _ (List.mem_append_left _ (List.mem_append_left _ (List.mem_append_left _ (List.mem_append_left _ (List.mem_append_left _ (List.mem_append_left _ (List.mem_of_getElem? (i := 2) rfl)))))))))))) rfl (v := .ref (o + 1)) rfl dX6_send_39 ?_
  refine k_VM (As := [.ref (o + 1)]) (rest := []) S hK (c_X2_save l E (o + 119) sn r (o + 1) z (by omega) hI hn6) gX6_send_X2_save rfl hd_X2_save ⟨rfl, rfl⟩ ⟨Nat.le_of_ble_eq_true rfl, Nat.le_of_ble_eq_true rfl⟩ (k_recv hK (hy_at hP3) rfl) ⟨hP3, hP1⟩ rfl hl.1 rfl (Nat.le_of_ble_eq_true rfl) dX6_send_42 ⟨Nat.le_of_ble_eq_true rfl, Nat.le_of_ble_eq_true rfl⟩ hS (fun q h => by exact ⟨by have := h.1; omega, by have := h.2; omega⟩) (fun q h => by exact ⟨by have := h.1; omega, by have := h.2; omega⟩) (fun H locs hQ zH fH hS => ?_)
  have hP := hQ
  have hV1 := hP
  have hk0 := bo_fr2 hP4 (fun q hz hq => fH q hz (bl_ne hq (by omega)))
  have hk1 := gg_fr2 hP0 (fun q hz hq => fH q hz (bl_ne hq (by omega)))
  have hk2 := dz_fr2 hP1 (fun q hz hq => fH q hz (bl_ne hq (by omega)))
  have hk3 := tr_fr2 hP2 (fun q hz hq => fH q hz (bl_ne hq (by omega)))
  refine lv_aload_n hx hb dX6_send_45 rfl (lv_at hl 1 rfl) ?_
  refine k_get S hK hk1 rfl (fun _ h => List.mem_cons_of_mem _ (List.mem_append_left _ (List.mem_append_left _ (List.mem_append_left _ (List.mem_append_left _ (List.mem_append_left _ (List.mem_append_left _ (List.mem_append_left _ (List.mem_append_left _ (List.mem_append_right _ (h))))))))))) 0 (by decide) (List.mem_cons_of_mem _ (List.mem_append_left _ (List.mem_append_left _ (List.mem_append_left _ (List.mem_append_left _ (List.mem_append_left _ (List.mem_append_left _ (List.mem_append_left _ (List.mem_append_left _ (List.mem_append_left _ (List.mem_append_left _ (List.mem_of_getElem? (i := 2) rfl)))))))))))) rfl (v := .ref (o + 1)) rfl dX6_send_46 ?_
  refine lv_aload_n hx hb dX6_send_49 rfl (lv_at hl 0 rfl) ?_
  refine lv_iload_n hx hb dX6_send_50 rfl (lv_at hl 3 rfl) ?_
  refine k_VM (As := [.ref (o + 1 + 2*u + 19), .int (nI 4)]) (rest := []) S hK (c_X1_move_4 l E (o + 1) z u hI hu) gX6_send_X1_move rfl hd_X1_move ⟨rfl, rfl⟩ ⟨Nat.le_of_ble_eq_true rfl, Nat.le_of_ble_eq_true rfl⟩ (k_recv hK (dz_d hk2) rfl) hk2 rfl hl.1 rfl (Nat.le_of_ble_eq_true rfl) dX6_send_51 ⟨Nat.le_of_ble_eq_true rfl, Nat.le_of_ble_eq_true rfl⟩ hS (fun q h => by exact ⟨by have := h.1; omega, by have := h.2; omega⟩) (fun q h => by exact ⟨by have := h.1; omega, by have := h.2; omega⟩) (fun H locs hQ zH fH hS => ?_)
  have hP := hQ
  have hV2 := hP
  have hk0 := bo_fr2 hk0 (fun q hz hq => fH q hz (bl_ne hq (by omega)))
  have hk1 := gg_fr2 hk1 (fun q hz hq => fH q hz (bl_ne hq (by omega)))
  have hk3 := tr_fr2 hk3 (fun q hz hq => fH q hz (bl_ne hq (by omega)))
  have hk4 := hy_fr2 hV1 (fun q hz hq => fH q hz (bl_ne hq (by omega)))
  exact k_iretM hx hb hr hlk dX6_send_54 hS ⟨hk1, hV2, hk3, hk4, hk0⟩ (rfl)
theorem her_le {z : Nat → Int32} {u : Nat} (h : iv z) (hu : u < cn z) (k : z (13*u + 68) ≤ nI 1) : her z u := by
  obtain ⟨j, e, h1, h2⟩ := rg_nI (pl_rg h hu) (by decide)
  rw [e] at k
  have := (nI_leI (by omega) (by omega)).mp k
  unfold her
  rw [e]
  rcases (by omega : j = 0 ∨ j = 1) with q | q <;> subst q
  · exact Or.inl rfl
  · exact Or.inr rfl
theorem br_ne {a n d h q : Nat} (hb : bl a n q) (hd : (a + n ≤ d ∨ d + 59 ≤ a) ∧ (a + n ≤ h ∨ h + 356 ≤ a)) : ¬ br d h q := fun k => k.elim (bl_ne hb hd.1) (bl_ne hb hd.2)
def rm_X6_pass : Room := { frames := 6, cells := 0, slots := 0, locals := 135 }
theorem hd_X6_pass : k_hd1 yX6_pass RX6 1 := by decide +kernel
set_option maxHeartbeats 4000000 in
set_option maxRecDepth 100000 in
theorem c_X6_pass (l : Launch) (E : ke_E) (o : Nat) (z : Nat → Int32) (sn : Nat) (r : Nat → Int32) (bn : Nat) (f : Nat → Int32) (n : Nat) (hI : iv z) (hn6 : sn ≤ 6) (hn1 : 1 ≤ n) (hn30 : n ≤ 30) (h1 : z 1 + nI n ≤ nI 2000) : Met l yX6_pass wsX6_pass rm_X6_pass (kp E [.ref o, .int (nI n)] (fun H => gg E o H ∧ dz E (o + 1) z H ∧ tr E (o + 60) H ∧ hy E (o + 119) sn r H ∧ bo E (o + 475) bn (auE (au f bn)) (auS (au f bn)) f H)) (qm (some (.int (psI z n).2)) (bl o 477) (fun H => gg E o H ∧ dz E (o + 1) (psI z n).1 H ∧ tr E (o + 60) H ∧ hy E (o + 119) (svN sn) (svR r z sn) H ∧ bo E (o + 475) bn (auE (au f bn)) (auS (au f bn)) f H)) 0 0 (bl o 477) := by
  refine k_hd (cc := cX6_pass) (maxL := 4) (ret := (some .int)) (by decide) rfl (Nat.le_of_ble_eq_true rfl) ?_
  intro p e s m below meth c ls S hr hlk hnm hK hP hl
  have hx := S.1
  have hb := S.2.1
  have hts := S.2.2.2.2
  obtain ⟨hP0, hP1, hP2, hP3, hP4⟩ := hP
  have hl : lv_has ls 4 [(0, .ref o), (1, .int (nI n))] := hl
  have hS : va_S (bl o 477) s.heap s.heap [] := va_S.rf
  have hc20 := iv_c hI
  have J47 : ∀ (n_ : Nat), ∀ (i : Nat), i ≤ n → n < i + n_ → ∀ (H : Heap) (locs : List Loc), gg E o H → dz E (o + 1) (psI z i).1 H → tr E (o + 60) H → hy E (o + 119) (svN sn) (svR r z sn) H → bo E (o + 475) bn (auE (au f bn)) (auS (au f bn)) f H → va_S (bl o 477) s.heap H locs → ∀ (ls : Array Slot), lv_has ls 4 [(0, .ref o), (1, .int (nI n)), (2, .int (psI z i).2), (3, .int (nI i))] → W p l e (headSpec wsX6_pass rm_X6_pass).room s m ([.ref o, .int (nI n)] : List Value).toArray below meth c H locs 0 0 (MQ below (qm (some (.int (psI z n).2)) (bl o 477) (fun H => gg E o H ∧ dz E (o + 1) (psI z n).1 H ∧ tr E (o + 60) H ∧ hy E (o + 119) (svN sn) (svR r z sn) H ∧ bo E (o + 475) bn (auE (au f bn)) (auS (au f bn)) f H)) ([.ref o, .int (nI n)] : List Value).toArray s 0 0 (bl o 477)) (F0 m 47 ls []) := by
    intro n_
    induction n_ with
    | zero =>
      intro i hi hn_ _ _ _ _ _ _ _ _ _ _
      exact absurd hn_ (by omega)
    | succ n_ ih =>
      intro i hi hn_ H locs hW0 hW1 hW2 hW3 hW4 hS ls hl
      have hIi := (psI_iv hI i).1
      refine lv_iload_n hx hb dX6_pass_47 rfl (lv_at hl 3 rfl) ?_
      refine lv_iload_n hx hb dX6_pass_48 rfl (lv_at hl 1 rfl) ?_
      refine n_ige (tgt := 68) hx hb dX6_pass_49 (by decide) (by omega) (by omega) (fun c49 => ?_) (fun c49 => ?_)
      · refine lv_iload_n hx hb dX6_pass_68 rfl (lv_at hl 2 rfl) ?_
        exact k_iretM hx hb hr hlk dX6_pass_69 hS ⟨hW0, (show dz E (o + 1) (psI z n).1 _ from (by rw [show n = i by omega]; exact hW1)), hW2, hW3, hW4⟩ (by rw [show n = i by omega])
      · refine lv_iload_n hx hb dX6_pass_52 rfl (lv_at hl 2 rfl) ?_
        refine lv_aload_n hx hb dX6_pass_53 rfl (lv_at hl 0 rfl) ?_
        refine k_get S hK hW0 rfl (fun _ h => List.mem_cons_of_mem _ (List.mem_append_left _ (List.mem_append_left _ (List.mem_append_left _ (List.mem_append_left _ (List.mem_append_left _ (List.mem_append_left _ (List.mem_append_left _ (List.mem_append_right _ (h)))))))))) 0 (by decide) (List.mem_cons_of_mem _ (List.mem_append_left _ (List.mem_append_left _ (List.mem_append_left _ (List.mem_append_left _ (List.mem_append_left _ (List.mem_append_left _ (List.mem_append_left _ (List.mem_append_left _ (List.mem_append_left _ (List.mem_of_getElem? (i := 2) rfl))))))))))) rfl (v := .ref (o + 1)) rfl dX6_pass_54 ?_
        refine k_VM (As := []) (rest := [.int (psI z i).2]) S hK (c_X1_nextDay l E (o + 1) (psI z i).1 hIi) gX6_pass_X1_nextDay rfl hd_X1_nextDay ⟨rfl, rfl⟩ ⟨Nat.le_of_ble_eq_true rfl, Nat.le_of_ble_eq_true rfl⟩ (k_recv hK (dz_d hW1) rfl) hW1 rfl hl.1 rfl (Nat.le_of_ble_eq_true rfl) dX6_pass_57 ⟨Nat.le_of_ble_eq_true rfl, Nat.le_of_ble_eq_true rfl⟩ hS (fun q h => by exact ⟨by have := h.1; omega, by have := h.2; omega⟩) (fun q h => by exact ⟨by have := h.1; omega, by have := h.2; omega⟩) (fun H locs hQ zH fH hS => ?_)
        have hP := hQ
        have hV1 := hP
        have hk0 := bo_fr2 hW4 (fun q hz hq => fH q hz (bl_ne hq (by omega)))
        have hk1 := gg_fr2 hW0 (fun q hz hq => fH q hz (bl_ne hq (by omega)))
        have hk3 := tr_fr2 hW2 (fun q hz hq => fH q hz (bl_ne hq (by omega)))
        have hk4 := hy_fr2 hW3 (fun q hz hq => fH q hz (bl_ne hq (by omega)))
        refine lv_iadd hx hb dX6_pass_60 ?_
        refine lv_istore_n (lv' := [(2, .int ((psI z i).2 + (dyZ (psI z i).1).2)), (0, .ref o), (1, .int (nI n)), (3, .int (nI i))]) hx hb dX6_pass_61 rfl hl (by decide) rfl (fun ls hl => ?_)
        refine lv_iinc (v := nI (i + 1)) (lv' := [(3, .int (nI (i + 1))), (2, .int ((psI z i).2 + (dyZ (psI z i).1).2)), (0, .ref o), (1, .int (nI n))]) hx hb dX6_pass_62 hl (k := 3) rfl (inc_1 _) (by decide) rfl (fun ls hl => ?_)
        refine lv_goto (tgt := 47) hx hb dX6_pass_65 (by decide) ?_
        have hl : lv_has ls 4 [(0, .ref o), (1, .int (nI n)), (2, .int (psI z (i + 1)).2), (3, .int (nI (i + 1)))] := by
          have h9 := lv_sub (l' := [(0, .ref o), (1, .int (nI n)), (2, .int ((psI z i).2 + (dyZ (psI z i).1).2)), (3, .int (nI (i + 1)))]) hl [2, 3, 1, 0] rfl
          rw [show (.int (psI z (i + 1)).2 : Value) = .int ((psI z i).2 + (dyZ (psI z i).1).2) from congrArg Value.int (rfl)]
          exact h9
        exact ih (i + 1) (by omega) (by omega) _ _ hk1 (show dz E (o + 1) (psI z (i + 1)).1 _ from hV1) hk3 hk4 hk0 hS _ hl
  refine lv_iload_n hx hb dX6_pass_0 rfl (lv_at hl 1 rfl) ?_
  refine lv_iconst (v := nI 1) hx hb dX6_pass_1 (by decide) ?_
  refine lv_bipush (v := nI 30) hx hb dX6_pass_2 (by decide) ?_
  refine k_S (As := [.int (nI n), .int (nI 1), .int (nI 30)]) (rest := []) S hK (c_X6_requireRange l E 1 30 (nI n) (in_n (by omega) (by omega) (by omega))) gX6_pass_X6_requireRange rfl hd_X6_requireRange ⟨rfl, rfl⟩ ⟨Nat.le_of_ble_eq_true rfl, Nat.le_of_ble_eq_true rfl⟩ trivial rfl hl.1 rfl (Nat.le_of_ble_eq_true rfl) dX6_pass_4 ⟨Nat.le_of_ble_eq_true rfl, Nat.le_of_ble_eq_true rfl⟩ ?_
  refine lv_aload_n hx hb dX6_pass_7 rfl (lv_at hl 0 rfl) ?_
  refine k_get S hK hP0 rfl (fun _ h => List.mem_cons_of_mem _ (List.mem_append_left _ (List.mem_append_left _ (List.mem_append_left _ (List.mem_append_left _ (List.mem_append_left _ (List.mem_append_left _ (List.mem_append_left _ (List.mem_append_right _ (h)))))))))) 0 (by decide) (List.mem_cons_of_mem _ (List.mem_append_left _ (List.mem_append_left _ (List.mem_append_left _ (List.mem_append_left _ (List.mem_append_left _ (List.mem_append_left _ (List.mem_append_left _ (List.mem_append_left _ (List.mem_append_left _ (List.mem_of_getElem? (i := 2) rfl))))))))))) rfl (v := .ref (o + 1)) rfl dX6_pass_8 ?_
  refine k_get S hK (dz_d hP1) rfl (fun _ h => List.mem_cons_of_mem _ (List.mem_append_left _ (List.mem_append_left _ (List.mem_append_left _ (List.mem_append_left _ (List.mem_append_left _ (List.mem_append_left _ (List.mem_append_right _ (h))))))))) 5 (by decide) (List.mem_cons_of_mem _ (List.mem_append_left _ (List.mem_append_left _ (List.mem_append_left _ (List.mem_append_left _ (List.mem_append_left _ (List.mem_append_left _ (List.mem_append_left _ (List.mem_append_left _ (List.mem_append_left _ (List.mem_of_getElem? (i := 3) rfl))))))))))) rfl (v := .int (z 1)) rfl dX6_pass_11 ?_
  refine lv_iload_n hx hb dX6_pass_14 rfl (lv_at hl 1 rfl) ?_
  refine lv_iadd hx hb dX6_pass_15 ?_
  refine lv_sipush (v := nI 2000) hx hb dX6_pass_16 (by decide) ?_
  refine lv_icmp_le (tgt := 32) hx hb dX6_pass_19 (by decide) (fun c19 => ?_) (fun h => absurd h1 h)
  refine lv_aload_n hx hb dX6_pass_32 rfl (lv_at hl 0 rfl) ?_
  refine k_get S hK hP0 rfl (fun _ h => List.mem_cons_of_mem _ (List.mem_append_left _ (List.mem_append_left _ (List.mem_append_left _ (List.mem_append_left _ (List.mem_append_left _ (List.mem_append_left _ (List.mem_append_left _ (List.mem_append_right _ (h)))))))))) 2 (by decide) (List.mem_cons_of_mem _ (List.mem_append_left _ (List.mem_append_left _ (List.mem_append_left _ (List.mem_append_left _ (List.mem_append_left _ (List.mem_append_left _ (List.mem_append_left _ (List.mem_append_left _ (List.mem_append_left _ (List.mem_of_getElem? (i := 4) rfl))))))))))) rfl (v := .ref (o + 119)) rfl dX6_pass_33 ?_
  refine lv_aload_n hx hb dX6_pass_36 rfl (lv_at hl 0 rfl) ?_
  refine k_get S hK hP0 rfl (fun _ h => List.mem_cons_of_mem _ (List.mem_append_left _ (List.mem_append_left _ (List.mem_append_left _ (List.mem_append_left _ (List.mem_append_left _ (List.mem_append_left _ (List.mem_append_left _ (List.mem_append_right _ (h)))))))))) 0 (by decide) (List.mem_cons_of_mem _ (List.mem_append_left _ (List.mem_append_left _ (List.mem_append_left _ (List.mem_append_left _ (List.mem_append_left _ (List.mem_append_left _ (List.mem_append_left _ (List.mem_append_left _ (List.mem_append_left _ (List.mem_of_getElem? (i := 2) rfl))))))))))) rfl (v := .ref (o + 1)) rfl dX6_pass_37 ?_
  refine k_VM (As := [.ref (o + 1)]) (rest := []) S hK (c_X2_save l E (o + 119) sn r (o + 1) z (by omega) hI hn6) gX6_pass_X2_save rfl hd_X2_save ⟨rfl, rfl⟩ ⟨Nat.le_of_ble_eq_true rfl, Nat.le_of_ble_eq_true rfl⟩ (k_recv hK (hy_at hP3) rfl) ⟨hP3, hP1⟩ rfl hl.1 rfl (Nat.le_of_ble_eq_true rfl) dX6_pass_40 ⟨Nat.le_of_ble_eq_true rfl, Nat.le_of_ble_eq_true rfl⟩ hS (fun q h => by exact ⟨by have := h.1; omega, by have := h.2; omega⟩) (fun q h => by exact ⟨by have := h.1; omega, by have := h.2; omega⟩) (fun H locs hQ zH fH hS => ?_)
  have hP := hQ
  have hV1 := hP
  have hk0 := bo_fr2 hP4 (fun q hz hq => fH q hz (bl_ne hq (by omega)))
  have hk1 := gg_fr2 hP0 (fun q hz hq => fH q hz (bl_ne hq (by omega)))
  have hk2 := dz_fr2 hP1 (fun q hz hq => fH q hz (bl_ne hq (by omega)))
  have hk3 := tr_fr2 hP2 (fun q hz hq => fH q hz (bl_ne hq (by omega)))
  refine lv_iconst (v := nI 0) hx hb dX6_pass_43 (by decide) ?_
  refine lv_istore_n (lv' := [(2, .int (nI 0)), (0, .ref o), (1, .int (nI n))]) hx hb dX6_pass_44 rfl hl (by decide) rfl (fun ls hl => ?_)
  refine lv_iconst (v := nI 0) hx hb dX6_pass_45 (by decide) ?_
  refine lv_istore_n (lv' := [(3, .int (nI 0)), (2, .int (nI 0)), (0, .ref o), (1, .int (nI n))]) hx hb dX6_pass_46 rfl hl (by decide) rfl (fun ls hl => ?_)
  have hl : lv_has ls 4 [(0, .ref o), (1, .int (nI n)), (2, .int (psI z 0).2), (3, .int (nI 0))] := by
    have h9 := lv_sub (l' := [(0, .ref o), (1, .int (nI n)), (2, .int (nI 0)), (3, .int (nI 0))]) hl [2, 3, 1, 0] rfl
    rw [show (.int (psI z 0).2 : Value) = .int (nI 0) from congrArg Value.int (rfl)]
    exact h9
  exact J47 (n + 1) 0 (by omega) (by omega) _ _ hk1 (show dz E (o + 1) (psI z 0).1 _ from hk2) hk3 hV1 hk0 hS _ hl
def rm_X6_claim : Room := { frames := 5, cells := 0, slots := 0, locals := 105 }
theorem hd_X6_claim : k_hd1 yX6_claim RX6 1 := by decide +kernel
set_option maxHeartbeats 4000000 in
set_option maxRecDepth 100000 in
theorem c_X6_claim (l : Launch) (E : ke_E) (o : Nat) (z : Nat → Int32) (sn : Nat) (r : Nat → Int32) (bn : Nat) (f : Nat → Int32) (u : Nat) (hI : iv z) (hn6 : sn ≤ 6) (hu : u < cn z) (h1 : clOK z u) (h72 : z (13*u + 72) = 0) : Met l yX6_claim wsX6_claim rm_X6_claim (kp E [.ref o, .int (nI u)] (fun H => gg E o H ∧ dz E (o + 1) z H ∧ tr E (o + 60) H ∧ hy E (o + 119) sn r H ∧ bo E (o + 475) bn (auE (au f bn)) (auS (au f bn)) f H)) (qm (some (.int (bI (payP (cm3 z u) u)))) (bl o 477) (fun H => gg E o H ∧ dz E (o + 1) (cmZ z u) H ∧ tr E (o + 60) H ∧ hy E (o + 119) (svN sn) (svR r z sn) H ∧ bo E (o + 475) bn (auE (au f bn)) (auS (au f bn)) f H)) 0 0 (bl o 477) := by
  refine k_hd (cc := cX6_claim) (maxL := 3) (ret := (some .int)) (by decide) rfl (Nat.le_of_ble_eq_true rfl) ?_
  intro p e s m below meth c ls S hr hlk hnm hK hP hl
  have hx := S.1
  have hb := S.2.1
  have hts := S.2.2.2.2
  obtain ⟨hP0, hP1, hP2, hP3, hP4⟩ := hP
  have hl : lv_has ls 3 [(0, .ref o), (1, .int (nI u))] := hl
  have hS : va_S (bl o 477) s.heap s.heap [] := va_S.rf
  have hc20 := iv_c hI
  refine lv_aload_n hx hb dX6_claim_0 rfl (lv_at hl 0 rfl) ?_
  refine lv_iload_n hx hb dX6_claim_1 rfl (lv_at hl 1 rfl) ?_
  refine k_V (As := [.int (nI u)]) (rest := []) S hK (c_X6_unitNumbered l E o z u hI hu) gX6_claim_X6_unitNumbered rfl hd_X6_unitNumbered ⟨rfl, rfl⟩ ⟨Nat.le_of_ble_eq_true rfl, Nat.le_of_ble_eq_true rfl⟩ (k_recv hK hP0 rfl) ⟨hP0, hP1⟩ rfl hl.1 rfl (Nat.le_of_ble_eq_true rfl) dX6_claim_2 ⟨Nat.le_of_ble_eq_true rfl, Nat.le_of_ble_eq_true rfl⟩ ?_
  refine lv_astore_n (lv' := [(2, .ref (o + 1 + 2*u + 19)), (0, .ref o), (1, .int (nI u))]) hx hb dX6_claim_5 rfl hl (by decide) rfl (fun ls hl => ?_)
  refine lv_aload_n hx hb dX6_claim_6 rfl (lv_at hl 0 rfl) ?_
  refine k_V (As := []) (rest := []) S hK (c_X4_isHere l E (o + 1) z u hu) gX6_claim_X4_isHere rfl hd_X4_isHere ⟨rfl, rfl⟩ ⟨Nat.le_of_ble_eq_true rfl, Nat.le_of_ble_eq_true rfl⟩ (k_recv hK (dz_u hP1 u hu) rfl) hP1 rfl hl.1 rfl (Nat.le_of_ble_eq_true rfl) dX6_claim_7 ⟨Nat.le_of_ble_eq_true rfl, Nat.le_of_ble_eq_true rfl⟩ ?_
  refine b_eq (tgt := 27) hx hb dX6_claim_10 (by decide) (fun h => absurd (her_le hI hu h1.1) h) (fun c10 => ?_)
  refine lv_aload_n hx hb dX6_claim_13 rfl (lv_at hl 0 rfl) ?_
  refine k_V (As := []) (rest := []) S hK (c_X4_isTested l E (o + 1) z u hu hI) gX6_claim_X4_isTested rfl hd_X4_isTested ⟨rfl, rfl⟩ ⟨Nat.le_of_ble_eq_true rfl, Nat.le_of_ble_eq_true rfl⟩ (k_recv hK (dz_u hP1 u hu) rfl) hP1 rfl hl.1 rfl (Nat.le_of_ble_eq_true rfl) dX6_claim_14 ⟨Nat.le_of_ble_eq_true rfl, Nat.le_of_ble_eq_true rfl⟩ ?_
  refine b_eq (tgt := 27) hx hb dX6_claim_17 (by decide) (fun h => absurd h1.2.1 h) (fun c17 => ?_)
  refine lv_aload_n hx hb dX6_claim_20 rfl (lv_at hl 0 rfl) ?_
  refine k_V (As := []) (rest := []) S hK (c_X4_hasClaim l E (o + 1) z u hu) gX6_claim_X4_hasClaim rfl hd_X4_hasClaim ⟨rfl, rfl⟩ ⟨Nat.le_of_ble_eq_true rfl, Nat.le_of_ble_eq_true rfl⟩ (k_recv hK (dz_u hP1 u hu) rfl) hP1 rfl hl.1 rfl (Nat.le_of_ble_eq_true rfl) dX6_claim_21 ⟨Nat.le_of_ble_eq_true rfl, Nat.le_of_ble_eq_true rfl⟩ ?_
  refine b_eq (tgt := 37) hx hb dX6_claim_24 (by decide) (fun c24 => ?_) (fun h => absurd h (fun h => h h1.2.2))
  refine lv_aload_n hx hb dX6_claim_37 rfl (lv_at hl 1 rfl) ?_
  refine k_get S hK hP0 rfl (fun _ h => List.mem_cons_of_mem _ (List.mem_append_left _ (List.mem_append_left _ (List.mem_append_left _ (List.mem_append_left _ (List.mem_append_left _ (List.mem_append_left _ (List.mem_append_left _ (List.mem_append_right _ (h)))))))))) 2 (by decide) (List.mem_cons_of_mem _ (List.mem_append_left _ (List.mem_append_left _ (List.mem_append_left _ (List.mem_append_left _ (List.mem_append_left _ (List.mem_append_left _ (List.mem_append_left _ (List.mem_append_left _ (List.mem_append_left _ (List.mem_of_getElem? (i := 2) rfl))))))))))) rfl (v := .ref (o + 119)) rfl dX6_claim_38 ?_
  refine lv_aload_n hx hb dX6_claim_41 rfl (lv_at hl 1 rfl) ?_
  refine k_get S hK hP0 rfl (fun _ h => List.mem_cons_of_mem _ (List.mem_append_left _ (List.mem_append_left _ (List.mem_append_left _ (List.mem_append_left _ (List.mem_append_left _ (List.mem_append_left _ (List.mem_append_left _ (List.mem_append_right _ (h)))))))))) 0 (by decide) (List.mem_cons_of_mem _ (List.mem_append_left _ (List.mem_append_left _ (List.mem_append_left _ (List.mem_append_left _ (List.mem_append_left _ (List.mem_append_left _ (List.mem_append_left _ (List.mem_append_left _ (List.mem_append_left _ (List.mem_of_getElem? (i := 3) rfl))))))))))) rfl (v := .ref (o + 1)) rfl dX6_claim_42 ?_
  refine k_VM (As := [.ref (o + 1)]) (rest := []) S hK (c_X2_save l E (o + 119) sn r (o + 1) z (by omega) hI hn6) gX6_claim_X2_save rfl hd_X2_save ⟨rfl, rfl⟩ ⟨Nat.le_of_ble_eq_true rfl, Nat.le_of_ble_eq_true rfl⟩ (k_recv hK (hy_at hP3) rfl) ⟨hP3, hP1⟩ rfl hl.1 rfl (Nat.le_of_ble_eq_true rfl) dX6_claim_45 ⟨Nat.le_of_ble_eq_true rfl, Nat.le_of_ble_eq_true rfl⟩ hS (fun q h => by exact ⟨by have := h.1; omega, by have := h.2; omega⟩) (fun q h => by exact ⟨by have := h.1; omega, by have := h.2; omega⟩) (fun H locs hQ zH fH hS => ?_)
  have hP := hQ
  have hV1 := hP
  have hk0 := bo_fr2 hP4 (fun q hz hq => fH q hz (bl_ne hq (by omega)))
  have hk1 := gg_fr2 hP0 (fun q hz hq => fH q hz (bl_ne hq (by omega)))
  have hk2 := dz_fr2 hP1 (fun q hz hq => fH q hz (bl_ne hq (by omega)))
  have hk3 := tr_fr2 hP2 (fun q hz hq => fH q hz (bl_ne hq (by omega)))
  refine lv_aload_n hx hb dX6_claim_48 rfl (lv_at hl 1 rfl) ?_
  refine k_get S hK hk1 rfl (fun _ h => List.mem_cons_of_mem _ (List.mem_append_left _ (List.mem_append_left _ (List.mem_append_left _ (List.mem_append_left _ (List.mem_append_left _ (List.mem_append_left _ (List.mem_append_left _ (List.mem_append_right _ (h)))))))))) 0 (by decide) (List.mem_cons_of_mem _ (List.mem_append_left _ (List.mem_append_left _ (List.mem_append_left _ (List.mem_append_left _ (List.mem_append_left _ (List.mem_append_left _ (List.mem_append_left _ (List.mem_append_left _ (List.mem_append_left _ (List.mem_of_getElem? (i := 3) rfl))))))))))) rfl (v := .ref (o + 1)) rfl dX6_claim_49 ?_
  refine lv_aload_n hx hb dX6_claim_52 rfl (lv_at hl 0 rfl) ?_
  refine k_VM (As := [.ref (o + 1 + 2*u + 19)]) (rest := []) S hK (c_X1_makeClaim l E (o + 1) z u hI hu c17 h72) gX6_claim_X1_makeClaim rfl hd_X1_makeClaim ⟨rfl, rfl⟩ ⟨Nat.le_of_ble_eq_true rfl, Nat.le_of_ble_eq_true rfl⟩ (k_recv hK (dz_d hk2) rfl) hk2 rfl hl.1 rfl (Nat.le_of_ble_eq_true rfl) dX6_claim_53 ⟨Nat.le_of_ble_eq_true rfl, Nat.le_of_ble_eq_true rfl⟩ hS (fun q h => by exact ⟨by have := h.1; omega, by have := h.2; omega⟩) (fun q h => by exact ⟨by have := h.1; omega, by have := h.2; omega⟩) (fun H locs hQ zH fH hS => ?_)
  have hP := hQ
  have hV2 := hP
  have hk0 := bo_fr2 hk0 (fun q hz hq => fH q hz (bl_ne hq (by omega)))
  have hk1 := gg_fr2 hk1 (fun q hz hq => fH q hz (bl_ne hq (by omega)))
  have hk3 := tr_fr2 hk3 (fun q hz hq => fH q hz (bl_ne hq (by omega)))
  have hk4 := hy_fr2 hV1 (fun q hz hq => fH q hz (bl_ne hq (by omega)))
  refine b_eq (tgt := 63) hx hb dX6_claim_56 (by decide) (fun c56 => ?_) (fun c56 => ?_)
  · refine lv_iconst (v := nI 0) hx hb dX6_claim_63 (by decide) ?_
    exact k_iretM hx hb hr hlk dX6_claim_64 hS ⟨hk1, hV2, hk3, hk4, hk0⟩ (bI_f c56)
  · refine lv_iconst (v := nI 1) hx hb dX6_claim_59 (by decide) ?_
    refine lv_goto (tgt := 64) hx hb dX6_claim_60 (by decide) ?_
    exact k_iretM hx hb hr hlk dX6_claim_64 hS ⟨hk1, hV2, hk3, hk4, hk0⟩ (bI_t c56)
def rm_X6_closePeriod : Room := { frames := 5, cells := 0, slots := 0, locals := 113 }
theorem hd_X6_closePeriod : k_hd1 yX6_closePeriod RX6 0 := by decide +kernel
set_option maxHeartbeats 4000000 in
set_option maxRecDepth 100000 in
theorem c_X6_closePeriod (l : Launch) (E : ke_E) (o : Nat) (z : Nat → Int32) (sn : Nat) (r : Nat → Int32) (bn : Nat) (f : Nat → Int32) (hI : iv z) (hn6 : sn ≤ 6) : Met l yX6_closePeriod wsX6_closePeriod rm_X6_closePeriod (kp E [.ref o] (fun H => gg E o H ∧ dz E (o + 1) z H ∧ tr E (o + 60) H ∧ hy E (o + 119) sn r H ∧ bo E (o + 475) bn (auE (au f bn)) (auS (au f bn)) f H)) (qm (some (.int (cloZ z).2)) (bl o 477) (fun H => gg E o H ∧ dz E (o + 1) (cloZ z).1 H ∧ tr E (o + 60) H ∧ hy E (o + 119) (svN sn) (svR r z sn) H ∧ bo E (o + 475) bn (auE (au f bn)) (auS (au f bn)) f H)) 0 0 (bl o 477) := by
  refine k_hd (cc := cX6_closePeriod) (maxL := 1) (ret := (some .int)) (by decide) rfl (Nat.le_of_ble_eq_true rfl) ?_
  intro p e s m below meth c ls S hr hlk hnm hK hP hl
  have hx := S.1
  have hb := S.2.1
  have hts := S.2.2.2.2
  obtain ⟨hP0, hP1, hP2, hP3, hP4⟩ := hP
  have hl : lv_has ls 1 [(0, .ref o)] := hl
  have hS : va_S (bl o 477) s.heap s.heap [] := va_S.rf
  have hc20 := iv_c hI
  refine lv_aload_n hx hb dX6_closePeriod_0 rfl (lv_at hl 0 rfl) ?_
  refine k_get S hK hP0 rfl (fun _ h => List.mem_cons_of_mem _ (List.mem_append_left _ (List.mem_append_left _ (List.mem_append_left _ (List.mem_append_left _ (List.mem_append_left _ (List.mem_append_right _ (h)))))))) 2 (by decide) (List.mem_cons_of_mem _ (List.mem_append_left _ (List.mem_append_left _ (List.mem_append_left _ (List.mem_append_left _ (List.mem_append_left _ (List.mem_append_left _ (List.mem_append_left _ (List.mem_of_getElem? (i := 0) rfl))))))))) rfl (v := .ref (o + 119)) rfl dX6_closePeriod_1 ?_
  refine lv_aload_n hx hb dX6_closePeriod_4 rfl (lv_at hl 0 rfl) ?_
  refine k_get S hK hP0 rfl (fun _ h => List.mem_cons_of_mem _ (List.mem_append_left _ (List.mem_append_left _ (List.mem_append_left _ (List.mem_append_left _ (List.mem_append_left _ (List.mem_append_right _ (h)))))))) 0 (by decide) (List.mem_cons_of_mem _ (List.mem_append_left _ (List.mem_append_left _ (List.mem_append_left _ (List.mem_append_left _ (List.mem_append_left _ (List.mem_append_left _ (List.mem_append_left _ (List.mem_of_getElem? (i := 1) rfl))))))))) rfl (v := .ref (o + 1)) rfl dX6_closePeriod_5 ?_
  refine k_VM (As := [.ref (o + 1)]) (rest := []) S hK (c_X2_save l E (o + 119) sn r (o + 1) z (by omega) hI hn6) gX6_closePeriod_X2_save rfl hd_X2_save ⟨rfl, rfl⟩ ⟨Nat.le_of_ble_eq_true rfl, Nat.le_of_ble_eq_true rfl⟩ (k_recv hK (hy_at hP3) rfl) ⟨hP3, hP1⟩ rfl hl.1 rfl (Nat.le_of_ble_eq_true rfl) dX6_closePeriod_8 ⟨Nat.le_of_ble_eq_true rfl, Nat.le_of_ble_eq_true rfl⟩ hS (fun q h => by exact ⟨by have := h.1; omega, by have := h.2; omega⟩) (fun q h => by exact ⟨by have := h.1; omega, by have := h.2; omega⟩) (fun H locs hQ zH fH hS => ?_)
  have hP := hQ
  have hV1 := hP
  have hk0 := bo_fr2 hP4 (fun q hz hq => fH q hz (bl_ne hq (by omega)))
  have hk1 := gg_fr2 hP0 (fun q hz hq => fH q hz (bl_ne hq (by omega)))
  have hk2 := dz_fr2 hP1 (fun q hz hq => fH q hz (bl_ne hq (by omega)))
  have hk3 := tr_fr2 hP2 (fun q hz hq => fH q hz (bl_ne hq (by omega)))
  refine lv_aload_n hx hb dX6_closePeriod_11 rfl (lv_at hl 0 rfl) ?_
  refine k_get S hK hk1 rfl (fun _ h => List.mem_cons_of_mem _ (List.mem_append_left _ (List.mem_append_left _ (List.mem_append_left _ (List.mem_append_left _ (List.mem_append_left _ (List.mem_append_right _ (h)))))))) 0 (by decide) (List.mem_cons_of_mem _ (List.mem_append_left _ (List.mem_append_left _ (List.mem_append_left _ (List.mem_append_left _ (List.mem_append_left _ (List.mem_append_left _ (List.mem_append_left _ (List.mem_of_getElem? (i := 1) rfl))))))))) rfl (v := .ref (o + 1)) rfl dX6_closePeriod_12 ?_
  refine k_VM (As := []) (rest := []) S hK (c_X1_close l E (o + 1) z hI) gX6_closePeriod_X1_close rfl hd_X1_close ⟨rfl, rfl⟩ ⟨Nat.le_of_ble_eq_true rfl, Nat.le_of_ble_eq_true rfl⟩ (k_recv hK (dz_d hk2) rfl) hk2 rfl hl.1 rfl (Nat.le_of_ble_eq_true rfl) dX6_closePeriod_15 ⟨Nat.le_of_ble_eq_true rfl, Nat.le_of_ble_eq_true rfl⟩ hS (fun q h => by exact ⟨by have := h.1; omega, by have := h.2; omega⟩) (fun q h => by exact ⟨by have := h.1; omega, by have := h.2; omega⟩) (fun H locs hQ zH fH hS => ?_)
  have hP := hQ
  have hV2 := hP
  have hk0 := bo_fr2 hk0 (fun q hz hq => fH q hz (bl_ne hq (by omega)))
  have hk1 := gg_fr2 hk1 (fun q hz hq => fH q hz (bl_ne hq (by omega)))
  have hk3 := tr_fr2 hk3 (fun q hz hq => fH q hz (bl_ne hq (by omega)))
  have hk4 := hy_fr2 hV1 (fun q hz hq => fH q hz (bl_ne hq (by omega)))
  exact k_iretM hx hb hr hlk dX6_closePeriod_18 hS ⟨hk1, hV2, hk3, hk4, hk0⟩ (rfl)
def rm_X6_append : Room := { frames := 3, cells := 0, slots := 0, locals := 63 }
theorem hd_X6_append : k_hd1 yX6_append RX6 1 := by decide +kernel
set_option maxHeartbeats 4000000 in
set_option maxRecDepth 100000 in
theorem c_X6_append (l : Launch) (E : ke_E) (o : Nat) (z : Nat → Int32) (sn : Nat) (r : Nat → Int32) (bn : Nat) (f : Nat → Int32) (y : Int32) (hbn : bn < 60) (h1 : nI 33 ≤ y ∧ y ≤ nI 126) : Met l yX6_append wsX6_append rm_X6_append (kp E [.ref o, .int y] (fun H => gg E o H ∧ dz E (o + 1) z H ∧ tr E (o + 60) H ∧ hy E (o + 119) sn r H ∧ bo E (o + 475) bn (auE (au f bn)) (auS (au f bn)) f H)) (qm (some (.int (nI (bn + 1)))) (bl o 477) (fun H => gg E o H ∧ dz E (o + 1) z H ∧ tr E (o + 60) H ∧ hy E (o + 119) sn r H ∧ bo E (o + 475) (bn + 1) (auE (au (upd f bn y) (bn + 1))) (auS (au (upd f bn y) (bn + 1))) (upd f bn y) H)) 0 0 (bl o 477) := by
  refine k_hd (cc := cX6_append) (maxL := 2) (ret := (some .int)) (by decide) rfl (Nat.le_of_ble_eq_true rfl) ?_
  intro p e s m below meth c ls S hr hlk hnm hK hP hl
  have hx := S.1
  have hb := S.2.1
  have hts := S.2.2.2.2
  obtain ⟨hP0, hP1, hP2, hP3, hP4⟩ := hP
  have hl : lv_has ls 2 [(0, .ref o), (1, .int y)] := hl
  have hS : va_S (bl o 477) s.heap s.heap [] := va_S.rf
  refine lv_iload_n hx hb dX6_append_0 rfl (lv_at hl 1 rfl) ?_
  refine lv_bipush (v := nI 33) hx hb dX6_append_1 (by decide) ?_
  refine lv_bipush (v := nI 126) hx hb dX6_append_3 (by decide) ?_
  refine k_S (As := [.int y, .int (nI 33), .int (nI 126)]) (rest := []) S hK (c_X6_requireRange l E 33 126 y h1) gX6_append_X6_requireRange rfl hd_X6_requireRange ⟨rfl, rfl⟩ ⟨Nat.le_of_ble_eq_true rfl, Nat.le_of_ble_eq_true rfl⟩ trivial rfl hl.1 rfl (Nat.le_of_ble_eq_true rfl) dX6_append_5 ⟨Nat.le_of_ble_eq_true rfl, Nat.le_of_ble_eq_true rfl⟩ ?_
  refine lv_aload_n hx hb dX6_append_8 rfl (lv_at hl 0 rfl) ?_
  refine k_get S hK hP0 rfl (fun _ h => List.mem_cons_of_mem _ (List.mem_append_left _ (List.mem_append_left _ (List.mem_append_left _ (List.mem_append_right _ (h)))))) 3 (by decide) (List.mem_cons_of_mem _ (List.mem_append_left _ (List.mem_append_left _ (List.mem_append_left _ (List.mem_append_left _ (List.mem_append_left _ (List.mem_of_getElem? (i := 2) rfl))))))) rfl (v := .ref (o + 475)) rfl dX6_append_9 ?_
  refine k_get S hK hP4.1 rfl (fun _ h => List.mem_cons_of_mem _ (List.mem_append_left _ (List.mem_append_left _ (List.mem_append_right _ (h))))) 1 (by decide) (List.mem_cons_of_mem _ (List.mem_append_left _ (List.mem_append_left _ (List.mem_append_left _ (List.mem_append_left _ (List.mem_append_left _ (List.mem_of_getElem? (i := 3) rfl))))))) rfl (v := .int (nI bn)) rfl dX6_append_12 ?_
  refine lv_bipush (v := nI 60) hx hb dX6_append_15 (by decide) ?_
  refine n_ilt (tgt := 30) hx hb dX6_append_17 (by decide) (by omega) (by omega) (fun c17 => ?_) (fun h => absurd h (by omega))
  refine lv_aload_n hx hb dX6_append_30 rfl (lv_at hl 0 rfl) ?_
  refine k_get S hK hP0 rfl (fun _ h => List.mem_cons_of_mem _ (List.mem_append_left _ (List.mem_append_left _ (List.mem_append_left _ (List.mem_append_right _ (h)))))) 3 (by decide) (List.mem_cons_of_mem _ (List.mem_append_left _ (List.mem_append_left _ (List.mem_append_left _ (List.mem_append_left _ (List.mem_append_left _ (List.mem_of_getElem? (i := 2) rfl))))))) rfl (v := .ref (o + 475)) rfl dX6_append_31 ?_
  refine lv_iload_n hx hb dX6_append_34 rfl (lv_at hl 1 rfl) ?_
  refine k_VM (As := [.int y]) (rest := []) S hK (c_X0_add l E (o + 475) bn f y c17) gX6_append_X0_add rfl hd_X0_add ⟨rfl, rfl⟩ ⟨Nat.le_of_ble_eq_true rfl, Nat.le_of_ble_eq_true rfl⟩ (k_recv hK hP4.1 rfl) hP4 rfl hl.1 rfl (Nat.le_of_ble_eq_true rfl) dX6_append_35 ⟨Nat.le_of_ble_eq_true rfl, Nat.le_of_ble_eq_true rfl⟩ hS (fun q h => by exact ⟨by have := h.1; omega, by have := h.2; omega⟩) (fun q h => by exact ⟨by have := h.1; omega, by have := h.2; omega⟩) (fun H locs hQ zH fH hS => ?_)
  have hP := hQ
  have hV1 := hP
  have hk1 := gg_fr2 hP0 (fun q hz hq => fH q hz (bl_ne hq (by omega)))
  have hk2 := dz_fr2 hP1 (fun q hz hq => fH q hz (bl_ne hq (by omega)))
  have hk3 := tr_fr2 hP2 (fun q hz hq => fH q hz (bl_ne hq (by omega)))
  have hk4 := hy_fr2 hP3 (fun q hz hq => fH q hz (bl_ne hq (by omega)))
  refine lv_aload_n hx hb dX6_append_38 rfl (lv_at hl 0 rfl) ?_
  refine k_get S hK hk1 rfl (fun _ h => List.mem_cons_of_mem _ (List.mem_append_left _ (List.mem_append_left _ (List.mem_append_left _ (List.mem_append_right _ (h)))))) 3 (by decide) (List.mem_cons_of_mem _ (List.mem_append_left _ (List.mem_append_left _ (List.mem_append_left _ (List.mem_append_left _ (List.mem_append_left _ (List.mem_of_getElem? (i := 2) rfl))))))) rfl (v := .ref (o + 475)) rfl dX6_append_39 ?_
  refine k_get S hK hV1.1 rfl (fun _ h => List.mem_cons_of_mem _ (List.mem_append_left _ (List.mem_append_left _ (List.mem_append_right _ (h))))) 1 (by decide) (List.mem_cons_of_mem _ (List.mem_append_left _ (List.mem_append_left _ (List.mem_append_left _ (List.mem_append_left _ (List.mem_append_left _ (List.mem_of_getElem? (i := 3) rfl))))))) rfl (v := .int (nI (bn + 1))) rfl dX6_append_42 ?_
  exact k_iretM hx hb hr hlk dX6_append_45 hS ⟨hk1, hk2, hk3, hk4, hV1⟩ (rfl)
def rm_X6_clearBuffer : Room := { frames := 1, cells := 0, slots := 0, locals := 20 }
theorem hd_X6_clearBuffer : k_hd1 yX6_clearBuffer RX6 0 := by decide +kernel
set_option maxHeartbeats 4000000 in
set_option maxRecDepth 100000 in
theorem c_X6_clearBuffer (l : Launch) (E : ke_E) (o : Nat) (z : Nat → Int32) (sn : Nat) (r : Nat → Int32) (bn : Nat) (f : Nat → Int32) : Met l yX6_clearBuffer wsX6_clearBuffer rm_X6_clearBuffer (kp E [.ref o] (fun H => gg E o H ∧ dz E (o + 1) z H ∧ tr E (o + 60) H ∧ hy E (o + 119) sn r H ∧ bo E (o + 475) bn (auE (au f bn)) (auS (au f bn)) f H)) (qm (some (.int (nI bn))) (bl o 477) (fun H => gg E o H ∧ dz E (o + 1) z H ∧ tr E (o + 60) H ∧ hy E (o + 119) sn r H ∧ bo E (o + 475) 0 (auE (au f 0)) (auS (au f 0)) f H)) 0 0 (bl o 477) := by
  refine k_hd (cc := cX6_clearBuffer) (maxL := 2) (ret := (some .int)) (by decide) rfl (Nat.le_of_ble_eq_true rfl) ?_
  intro p e s m below meth c ls S hr hlk hnm hK hP hl
  have hx := S.1
  have hb := S.2.1
  have hts := S.2.2.2.2
  obtain ⟨hP0, hP1, hP2, hP3, hP4⟩ := hP
  have hl : lv_has ls 2 [(0, .ref o)] := hl
  have hS : va_S (bl o 477) s.heap s.heap [] := va_S.rf
  refine lv_aload_n hx hb dX6_clearBuffer_0 rfl (lv_at hl 0 rfl) ?_
  refine k_get S hK hP0 rfl (fun _ h => List.mem_cons_of_mem _ (List.mem_append_left _ (List.mem_append_right _ (h)))) 3 (by decide) (List.mem_cons_of_mem _ (List.mem_append_left _ (List.mem_append_left _ (List.mem_of_getElem? (i := 0) rfl)))) rfl (v := .ref (o + 475)) rfl dX6_clearBuffer_1 ?_
  refine k_get S hK hP4.1 rfl (fun _ h => List.mem_cons_of_mem _ (List.mem_append_right _ (h))) 1 (by decide) (List.mem_cons_of_mem _ (List.mem_append_left _ (List.mem_append_left _ (List.mem_of_getElem? (i := 1) rfl)))) rfl (v := .int (nI bn)) rfl dX6_clearBuffer_4 ?_
  refine lv_istore_n (lv' := [(1, .int (nI bn)), (0, .ref o)]) hx hb dX6_clearBuffer_7 rfl hl (by decide) rfl (fun ls hl => ?_)
  refine lv_aload_n hx hb dX6_clearBuffer_8 rfl (lv_at hl 1 rfl) ?_
  refine k_get S hK hP0 rfl (fun _ h => List.mem_cons_of_mem _ (List.mem_append_left _ (List.mem_append_right _ (h)))) 3 (by decide) (List.mem_cons_of_mem _ (List.mem_append_left _ (List.mem_append_left _ (List.mem_of_getElem? (i := 0) rfl)))) rfl (v := .ref (o + 475)) rfl dX6_clearBuffer_9 ?_
  refine k_VM (As := []) (rest := []) S hK (c_X0_clear l E (o + 475) bn f (auE (au f bn)) (auS (au f bn))) gX6_clearBuffer_X0_clear rfl hd_X0_clear ⟨rfl, rfl⟩ ⟨Nat.le_of_ble_eq_true rfl, Nat.le_of_ble_eq_true rfl⟩ (k_recv hK hP4.1 rfl) hP4 rfl hl.1 rfl (Nat.le_of_ble_eq_true rfl) dX6_clearBuffer_12 ⟨Nat.le_of_ble_eq_true rfl, Nat.le_of_ble_eq_true rfl⟩ hS (fun q h => by exact ⟨by have := h.1; omega, by have := h.2; omega⟩) (fun q h => by exact ⟨by have := h.1; omega, by have := h.2; omega⟩) (fun H locs hQ zH fH hS => ?_)
  have hP := hQ
  have hV1 := hP
  have hk1 := gg_fr2 hP0 (fun q hz hq => fH q hz (bl_ne hq (by omega)))
  have hk2 := dz_fr2 hP1 (fun q hz hq => fH q hz (bl_ne hq (by omega)))
  have hk3 := tr_fr2 hP2 (fun q hz hq => fH q hz (bl_ne hq (by omega)))
  have hk4 := hy_fr2 hP3 (fun q hz hq => fH q hz (bl_ne hq (by omega)))
  refine lv_iload_n hx hb dX6_clearBuffer_15 rfl (lv_at hl 0 rfl) ?_
  exact k_iretM hx hb hr hlk dX6_clearBuffer_16 hS ⟨hk1, hk2, hk3, hk4, hV1⟩ (rfl)
def rm_X6_firstError : Room := { frames := 0, cells := 0, slots := 0, locals := 0 }
theorem hd_X6_firstError : k_hd1 yX6_firstError RX6 0 := by decide +kernel
set_option maxHeartbeats 4000000 in
set_option maxRecDepth 100000 in
theorem c_X6_firstError (l : Launch) (E : ke_E) (o : Nat) (bn : Nat) (f : Nat → Int32) : Met l yX6_firstError wsX6_firstError rm_X6_firstError (kp E [.ref o] (fun H => gg E o H ∧ bo E (o + 475) bn (auE (au f bn)) (auS (au f bn)) f H)) (qp (some (.int (iF (auE (au f bn) = -1) (nI bn) (auE (au f bn)))))) 0 0 nof := by
  refine k_hd (cc := cX6_firstError) (maxL := 1) (ret := (some .int)) (by decide) rfl (Nat.le_of_ble_eq_true rfl) ?_
  intro p e s m below meth c ls S hr hlk hnm hK hP hl
  have hx := S.1
  have hb := S.2.1
  have hts := S.2.2.2.2
  obtain ⟨hP0, hP1⟩ := hP
  have hl : lv_has ls 1 [(0, .ref o)] := hl
  refine lv_aload_n hx hb dX6_firstError_0 rfl (lv_at hl 0 rfl) ?_
  refine k_get S hK hP0 rfl (fun _ h => List.mem_cons_of_mem _ (List.mem_append_left _ (List.mem_append_right _ (h)))) 3 (by decide) (List.mem_cons_of_mem _ (List.mem_append_left _ (List.mem_append_left _ (List.mem_of_getElem? (i := 0) rfl)))) rfl (v := .ref (o + 475)) rfl dX6_firstError_1 ?_
  refine k_get S hK hP1.1 rfl (fun _ h => List.mem_cons_of_mem _ (List.mem_append_right _ (h))) 2 (by decide) (List.mem_cons_of_mem _ (List.mem_append_left _ (List.mem_append_left _ (List.mem_of_getElem? (i := 1) rfl)))) rfl (v := .int (auE (au f bn))) rfl dX6_firstError_4 ?_
  refine lv_iconst (v := (-1)) hx hb dX6_firstError_7 (by decide) ?_
  refine lv_icmp_ne (tgt := 21) hx hb dX6_firstError_8 (by decide) (fun c8 => ?_) (fun c8 => ?_)
  · refine lv_aload_n hx hb dX6_firstError_21 rfl (lv_at hl 0 rfl) ?_
    refine k_get S hK hP0 rfl (fun _ h => List.mem_cons_of_mem _ (List.mem_append_left _ (List.mem_append_right _ (h)))) 3 (by decide) (List.mem_cons_of_mem _ (List.mem_append_left _ (List.mem_append_left _ (List.mem_of_getElem? (i := 0) rfl)))) rfl (v := .ref (o + 475)) rfl dX6_firstError_22 ?_
    refine k_get S hK hP1.1 rfl (fun _ h => List.mem_cons_of_mem _ (List.mem_append_right _ (h))) 2 (by decide) (List.mem_cons_of_mem _ (List.mem_append_left _ (List.mem_append_left _ (List.mem_of_getElem? (i := 1) rfl)))) rfl (v := .int (auE (au f bn))) rfl dX6_firstError_25 ?_
    exact k_iret hx hb hr hlk dX6_firstError_28 (iF_f c8)
  · refine lv_aload_n hx hb dX6_firstError_11 rfl (lv_at hl 0 rfl) ?_
    refine k_get S hK hP0 rfl (fun _ h => List.mem_cons_of_mem _ (List.mem_append_left _ (List.mem_append_right _ (h)))) 3 (by decide) (List.mem_cons_of_mem _ (List.mem_append_left _ (List.mem_append_left _ (List.mem_of_getElem? (i := 0) rfl)))) rfl (v := .ref (o + 475)) rfl dX6_firstError_12 ?_
    refine k_get S hK hP1.1 rfl (fun _ h => List.mem_cons_of_mem _ (List.mem_append_right _ (h))) 1 (by decide) (List.mem_cons_of_mem _ (List.mem_append_left _ (List.mem_append_left _ (List.mem_of_getElem? (i := 2) rfl)))) rfl (v := .int (nI bn)) rfl dX6_firstError_15 ?_
    refine lv_goto (tgt := 28) hx hb dX6_firstError_18 (by decide) ?_
    exact k_iret hx hb hr hlk dX6_firstError_28 (iF_t c8)
def rm_X6_receiveAll : Room := { frames := 4, cells := 0, slots := 0, locals := 86 }
theorem hd_X6_receiveAll : k_hd1 yX6_receiveAll RX6 0 := by decide +kernel
set_option maxHeartbeats 4000000 in
set_option maxRecDepth 100000 in
theorem c_X6_receiveAll (l : Launch) (E : ke_E) (o : Nat) (z : Nat → Int32) (sn : Nat) (r : Nat → Int32) (bn : Nat) (f : Nat → Int32) (ee : Nat) (hI : iv z) (hn6 : sn ≤ 6) (hG : au f bn = .inl ee) (hE : ee = 4 ∨ ee = 9) (hc : cn z + tC f bn ≤ 20) (hsc : sC f bn + 1 = tC f bn) (hbn : bn ≤ 60) : Met l yX6_receiveAll wsX6_receiveAll rm_X6_receiveAll (kp E [.ref o] (fun H => gg E o H ∧ dz E (o + 1) z H ∧ tr E (o + 60) H ∧ hy E (o + 119) sn r H ∧ bo E (o + 475) bn (auE (au f bn)) (auS (au f bn)) f H)) (qm (some (.int (nI (cn (pu f z bn).1)))) (bl o 477) (fun H => gg E o H ∧ dz E (o + 1) (pu f z bn).1 H ∧ tr E (o + 60) H ∧ hy E (o + 119) (svN sn) (svR r z sn) H ∧ bo E (o + 475) 0 (auE (au f 0)) (auS (au f 0)) f H)) 0 0 (bl o 477) := by
  refine k_hd (cc := cX6_receiveAll) (maxL := 1) (ret := (some .int)) (by decide) rfl (Nat.le_of_ble_eq_true rfl) ?_
  intro p e s m below meth c ls S hr hlk hnm hK hP hl
  have hx := S.1
  have hb := S.2.1
  have hts := S.2.2.2.2
  obtain ⟨hP0, hP1, hP2, hP3, hP4⟩ := hP
  have hl : lv_has ls 1 [(0, .ref o)] := hl
  have hS : va_S (bl o 477) s.heap s.heap [] := va_S.rf
  have hc20 := iv_c hI
  have hP9 := (pu_inv hI hG hc bn (Nat.le_refl _)).1
  refine lv_aload_n hx hb dX6_receiveAll_0 rfl (lv_at hl 0 rfl) ?_
  refine k_get S hK hP0 rfl (fun _ h => List.mem_cons_of_mem _ (List.mem_append_left _ (List.mem_append_left _ (List.mem_append_left _ (List.mem_append_left _ (List.mem_append_left _ (List.mem_append_left _ (List.mem_append_left _ (List.mem_append_left _ (List.mem_append_right _ (h))))))))))) 3 (by decide) (List.mem_cons_of_mem _ (List.mem_append_left _ (List.mem_append_left _ (List.mem_append_left _ (List.mem_append_left _ (List.mem_append_left _ (List.mem_append_left _ (List.mem_append_left _ (List.mem_append_left _ (List.mem_append_left _ (List.mem_append_left _ (List.mem_of_getElem? (i := 4) rfl)))))))))))) rfl (v := .ref (o + 475)) rfl dX6_receiveAll_1 ?_
  refine k_V (As := []) (rest := []) S hK (c_X0_isComplete l E (o + 475) bn f) gX6_receiveAll_X0_isComplete rfl hd_X0_isComplete ⟨rfl, rfl⟩ ⟨Nat.le_of_ble_eq_true rfl, Nat.le_of_ble_eq_true rfl⟩ (k_recv hK hP4.1 rfl) hP4 rfl hl.1 rfl (Nat.le_of_ble_eq_true rfl) dX6_receiveAll_4 ⟨Nat.le_of_ble_eq_true rfl, Nat.le_of_ble_eq_true rfl⟩ ?_
  refine b_ne (tgt := 20) hx hb dX6_receiveAll_7 (by decide) (fun c7 => ?_) (fun h => absurd (hE.imp (fun h => by rw [hG, h]) (fun h => by rw [hG, h])) h)
  refine lv_aload_n hx hb dX6_receiveAll_20 rfl (lv_at hl 0 rfl) ?_
  refine k_get S hK hP0 rfl (fun _ h => List.mem_cons_of_mem _ (List.mem_append_left _ (List.mem_append_left _ (List.mem_append_left _ (List.mem_append_left _ (List.mem_append_left _ (List.mem_append_left _ (List.mem_append_left _ (List.mem_append_left _ (List.mem_append_right _ (h))))))))))) 0 (by decide) (List.mem_cons_of_mem _ (List.mem_append_left _ (List.mem_append_left _ (List.mem_append_left _ (List.mem_append_left _ (List.mem_append_left _ (List.mem_append_left _ (List.mem_append_left _ (List.mem_append_left _ (List.mem_append_left _ (List.mem_append_left _ (List.mem_of_getElem? (i := 5) rfl)))))))))))) rfl (v := .ref (o + 1)) rfl dX6_receiveAll_21 ?_
  refine k_get S hK (dz_d hP1) rfl (fun _ h => List.mem_cons_of_mem _ (List.mem_append_left _ (List.mem_append_left _ (List.mem_append_left _ (List.mem_append_left _ (List.mem_append_left _ (List.mem_append_left _ (List.mem_append_left _ (List.mem_append_right _ (h)))))))))) 4 (by decide) (List.mem_cons_of_mem _ (List.mem_append_left _ (List.mem_append_left _ (List.mem_append_left _ (List.mem_append_left _ (List.mem_append_left _ (List.mem_append_left _ (List.mem_append_left _ (List.mem_append_left _ (List.mem_append_left _ (List.mem_append_left _ (List.mem_of_getElem? (i := 6) rfl)))))))))))) rfl (v := .int (nI (cn z))) (congrArg (fun x => some (Value.int x)) ((iv_n hI))) dX6_receiveAll_24 ?_
  refine lv_aload_n hx hb dX6_receiveAll_27 rfl (lv_at hl 0 rfl) ?_
  refine k_get S hK hP0 rfl (fun _ h => List.mem_cons_of_mem _ (List.mem_append_left _ (List.mem_append_left _ (List.mem_append_left _ (List.mem_append_left _ (List.mem_append_left _ (List.mem_append_left _ (List.mem_append_left _ (List.mem_append_left _ (List.mem_append_right _ (h))))))))))) 3 (by decide) (List.mem_cons_of_mem _ (List.mem_append_left _ (List.mem_append_left _ (List.mem_append_left _ (List.mem_append_left _ (List.mem_append_left _ (List.mem_append_left _ (List.mem_append_left _ (List.mem_append_left _ (List.mem_append_left _ (List.mem_append_left _ (List.mem_of_getElem? (i := 4) rfl)))))))))))) rfl (v := .ref (o + 475)) rfl dX6_receiveAll_28 ?_
  refine k_V (As := []) (rest := [.int (nI (cn z))]) S hK (c_X0_unitsInText l E (o + 475) bn f hbn) gX6_receiveAll_X0_unitsInText rfl hd_X0_unitsInText ⟨rfl, rfl⟩ ⟨Nat.le_of_ble_eq_true rfl, Nat.le_of_ble_eq_true rfl⟩ (k_recv hK hP4.1 rfl) hP4 rfl hl.1 rfl (Nat.le_of_ble_eq_true rfl) dX6_receiveAll_31 ⟨Nat.le_of_ble_eq_true rfl, Nat.le_of_ble_eq_true rfl⟩ ?_
  refine n_iadd (n := cn z + sC f bn + 1) hx hb dX6_receiveAll_34 (by omega) ?_
  refine lv_bipush (v := nI 20) hx hb dX6_receiveAll_35 (by decide) ?_
  refine n_ile (tgt := 50) hx hb dX6_receiveAll_37 (by decide) (by omega) (by omega) (fun c37 => ?_) (fun h => absurd h (by omega))
  refine lv_aload_n hx hb dX6_receiveAll_50 rfl (lv_at hl 0 rfl) ?_
  refine k_get S hK hP0 rfl (fun _ h => List.mem_cons_of_mem _ (List.mem_append_left _ (List.mem_append_left _ (List.mem_append_left _ (List.mem_append_left _ (List.mem_append_left _ (List.mem_append_left _ (List.mem_append_left _ (List.mem_append_left _ (List.mem_append_right _ (h))))))))))) 2 (by decide) (List.mem_cons_of_mem _ (List.mem_append_left _ (List.mem_append_left _ (List.mem_append_left _ (List.mem_append_left _ (List.mem_append_left _ (List.mem_append_left _ (List.mem_append_left _ (List.mem_append_left _ (List.mem_append_left _ (List.mem_append_left _ (List.mem_of_getElem? (i := 7) rfl)))))))))))) rfl (v := .ref (o + 119)) rfl dX6_receiveAll_51 ?_
  refine lv_aload_n hx hb dX6_receiveAll_54 rfl (lv_at hl 0 rfl) ?_
  refine k_get S hK hP0 rfl (fun _ h => List.mem_cons_of_mem _ (List.mem_append_left _ (List.mem_append_left _ (List.mem_append_left _ (List.mem_append_left _ (List.mem_append_left _ (List.mem_append_left _ (List.mem_append_left _ (List.mem_append_left _ (List.mem_append_right _ (h))))))))))) 0 (by decide) (List.mem_cons_of_mem _ (List.mem_append_left _ (List.mem_append_left _ (List.mem_append_left _ (List.mem_append_left _ (List.mem_append_left _ (List.mem_append_left _ (List.mem_append_left _ (List.mem_append_left _ (List.mem_append_left _ (List.mem_append_left _ (List.mem_of_getElem? (i := 5) rfl)))))))))))) rfl (v := .ref (o + 1)) rfl dX6_receiveAll_55 ?_
  refine k_VM (As := [.ref (o + 1)]) (rest := []) S hK (c_X2_save l E (o + 119) sn r (o + 1) z (by omega) hI hn6) gX6_receiveAll_X2_save rfl hd_X2_save ⟨rfl, rfl⟩ ⟨Nat.le_of_ble_eq_true rfl, Nat.le_of_ble_eq_true rfl⟩ (k_recv hK (hy_at hP3) rfl) ⟨hP3, hP1⟩ rfl hl.1 rfl (Nat.le_of_ble_eq_true rfl) dX6_receiveAll_58 ⟨Nat.le_of_ble_eq_true rfl, Nat.le_of_ble_eq_true rfl⟩ hS (fun q h => by exact ⟨by have := h.1; omega, by have := h.2; omega⟩) (fun q h => by exact ⟨by have := h.1; omega, by have := h.2; omega⟩) (fun H locs hQ zH fH hS => ?_)
  have hP := hQ
  have hV1 := hP
  have hk0 := bo_fr2 hP4 (fun q hz hq => fH q hz (bl_ne hq (by omega)))
  have hk1 := gg_fr2 hP0 (fun q hz hq => fH q hz (bl_ne hq (by omega)))
  have hk2 := dz_fr2 hP1 (fun q hz hq => fH q hz (bl_ne hq (by omega)))
  have hk3 := tr_fr2 hP2 (fun q hz hq => fH q hz (bl_ne hq (by omega)))
  refine lv_aload_n hx hb dX6_receiveAll_61 rfl (lv_at hl 0 rfl) ?_
  refine k_get S hK hk1 rfl (fun _ h => List.mem_cons_of_mem _ (List.mem_append_left _ (List.mem_append_left _ (List.mem_append_left _ (List.mem_append_left _ (List.mem_append_left _ (List.mem_append_left _ (List.mem_append_left _ (List.mem_append_left _ (List.mem_append_right _ (h))))))))))) 3 (by decide) (List.mem_cons_of_mem _ (List.mem_append_left _ (List.mem_append_left _ (List.mem_append_left _ (List.mem_append_left _ (List.mem_append_left _ (List.mem_append_left _ (List.mem_append_left _ (List.mem_append_left _ (List.mem_append_left _ (List.mem_append_left _ (List.mem_of_getElem? (i := 4) rfl)))))))))))) rfl (v := .ref (o + 475)) rfl dX6_receiveAll_62 ?_
  refine lv_aload_n hx hb dX6_receiveAll_65 rfl (lv_at hl 0 rfl) ?_
  refine k_get S hK hk1 rfl (fun _ h => List.mem_cons_of_mem _ (List.mem_append_left _ (List.mem_append_left _ (List.mem_append_left _ (List.mem_append_left _ (List.mem_append_left _ (List.mem_append_left _ (List.mem_append_left _ (List.mem_append_left _ (List.mem_append_right _ (h))))))))))) 0 (by decide) (List.mem_cons_of_mem _ (List.mem_append_left _ (List.mem_append_left _ (List.mem_append_left _ (List.mem_append_left _ (List.mem_append_left _ (List.mem_append_left _ (List.mem_append_left _ (List.mem_append_left _ (List.mem_append_left _ (List.mem_append_left _ (List.mem_of_getElem? (i := 5) rfl)))))))))))) rfl (v := .ref (o + 1)) rfl dX6_receiveAll_66 ?_
  refine k_VM (As := [.ref (o + 1)]) (rest := []) S hK (c_X0_putUnitsOn l E (o + 475) bn f (o + 1) z ee (by omega) hI hG hc hbn) gX6_receiveAll_X0_putUnitsOn rfl hd_X0_putUnitsOn ⟨rfl, rfl⟩ ⟨Nat.le_of_ble_eq_true rfl, Nat.le_of_ble_eq_true rfl⟩ (k_recv hK hk0.1 rfl) ⟨hk0, hk2⟩ rfl hl.1 rfl (Nat.le_of_ble_eq_true rfl) dX6_receiveAll_69 ⟨Nat.le_of_ble_eq_true rfl, Nat.le_of_ble_eq_true rfl⟩ hS (fun q h => by exact ⟨by have := h.1; omega, by have := h.2; omega⟩) (fun q h => by exact ⟨by have := h.1; omega, by have := h.2; omega⟩) (fun H locs hQ zH fH hS => ?_)
  have hP := hQ
  have hV2 := hP
  have hk0 := bo_fr2 hk0 (fun q hz hq => fH q hz (bl_ne hq (by omega)))
  have hk1 := gg_fr2 hk1 (fun q hz hq => fH q hz (bl_ne hq (by omega)))
  have hk3 := tr_fr2 hk3 (fun q hz hq => fH q hz (bl_ne hq (by omega)))
  have hk4 := hy_fr2 hV1 (fun q hz hq => fH q hz (bl_ne hq (by omega)))
  refine lv_aload_n hx hb dX6_receiveAll_72 rfl (lv_at hl 0 rfl) ?_
  refine k_get S hK hk1 rfl (fun _ h => List.mem_cons_of_mem _ (List.mem_append_left _ (List.mem_append_left _ (List.mem_append_left _ (List.mem_append_left _ (List.mem_append_left _ (List.mem_append_left _ (List.mem_append_left _ (List.mem_append_left _ (List.mem_append_right _ (h))))))))))) 3 (by decide) (List.mem_cons_of_mem _ (List.mem_append_left _ (List.mem_append_left _ (List.mem_append_left _ (List.mem_append_left _ (List.mem_append_left _ (List.mem_append_left _ (List.mem_append_left _ (List.mem_append_left _ (List.mem_append_left _ (List.mem_append_left _ (List.mem_of_getElem? (i := 4) rfl)))))))))))) rfl (v := .ref (o + 475)) rfl dX6_receiveAll_73 ?_
  refine k_VM (As := []) (rest := []) S hK (c_X0_clear l E (o + 475) bn f (auE (au f bn)) (auS (au f bn))) gX6_receiveAll_X0_clear rfl hd_X0_clear ⟨rfl, rfl⟩ ⟨Nat.le_of_ble_eq_true rfl, Nat.le_of_ble_eq_true rfl⟩ (k_recv hK hk0.1 rfl) hk0 rfl hl.1 rfl (Nat.le_of_ble_eq_true rfl) dX6_receiveAll_76 ⟨Nat.le_of_ble_eq_true rfl, Nat.le_of_ble_eq_true rfl⟩ hS (fun q h => by exact ⟨by have := h.1; omega, by have := h.2; omega⟩) (fun q h => by exact ⟨by have := h.1; omega, by have := h.2; omega⟩) (fun H locs hQ zH fH hS => ?_)
  have hP := hQ
  have hV3 := hP
  have hk1 := gg_fr2 hk1 (fun q hz hq => fH q hz (bl_ne hq (by omega)))
  have hk2 := dz_fr2 hV2 (fun q hz hq => fH q hz (bl_ne hq (by omega)))
  have hk3 := tr_fr2 hk3 (fun q hz hq => fH q hz (bl_ne hq (by omega)))
  have hk4 := hy_fr2 hk4 (fun q hz hq => fH q hz (bl_ne hq (by omega)))
  refine lv_aload_n hx hb dX6_receiveAll_79 rfl (lv_at hl 0 rfl) ?_
  refine k_get S hK hk1 rfl (fun _ h => List.mem_cons_of_mem _ (List.mem_append_left _ (List.mem_append_left _ (List.mem_append_left _ (List.mem_append_left _ (List.mem_append_left _ (List.mem_append_left _ (List.mem_append_left _ (List.mem_append_left _ (List.mem_append_right _ (h))))))))))) 0 (by decide) (List.mem_cons_of_mem _ (List.mem_append_left _ (List.mem_append_left _ (List.mem_append_left _ (List.mem_append_left _ (List.mem_append_left _ (List.mem_append_left _ (List.mem_append_left _ (List.mem_append_left _ (List.mem_append_left _ (List.mem_append_left _ (List.mem_of_getElem? (i := 5) rfl)))))))))))) rfl (v := .ref (o + 1)) rfl dX6_receiveAll_80 ?_
  refine k_get S hK (dz_d hk2) rfl (fun _ h => List.mem_cons_of_mem _ (List.mem_append_left _ (List.mem_append_left _ (List.mem_append_left _ (List.mem_append_left _ (List.mem_append_left _ (List.mem_append_left _ (List.mem_append_left _ (List.mem_append_right _ (h)))))))))) 4 (by decide) (List.mem_cons_of_mem _ (List.mem_append_left _ (List.mem_append_left _ (List.mem_append_left _ (List.mem_append_left _ (List.mem_append_left _ (List.mem_append_left _ (List.mem_append_left _ (List.mem_append_left _ (List.mem_append_left _ (List.mem_append_left _ (List.mem_of_getElem? (i := 6) rfl)))))))))))) rfl (v := .int (nI (cn (pu f z bn).1))) (congrArg (fun x => some (Value.int x)) ((iv_n hP9))) dX6_receiveAll_83 ?_
  exact k_iretM hx hb hr hlk dX6_receiveAll_86 hS ⟨hk1, hk2, hk3, hk4, hV3⟩ (rfl)
def rm_X6_undo : Room := { frames := 4, cells := 0, slots := 0, locals := 87 }
theorem hd_X6_undo : k_hd1 yX6_undo RX6 0 := by decide +kernel
set_option maxHeartbeats 4000000 in
set_option maxRecDepth 100000 in
theorem c_X6_undo (l : Launch) (E : ke_E) (o : Nat) (z : Nat → Int32) (r : Nat → Int32) (bn : Nat) (f : Nat → Int32) (k : Nat) (hIr : iv (fun j => r (322*k + j))) (hk6 : k < 6) : Met l yX6_undo wsX6_undo rm_X6_undo (kp E [.ref o] (fun H => gg E o H ∧ dz E (o + 1) z H ∧ tr E (o + 60) H ∧ hy E (o + 119) (k + 1) r H ∧ bo E (o + 475) bn (auE (au f bn)) (auS (au f bn)) f H)) (qm (some (.int (nI k))) (bl o 477) (fun H => gg E o H ∧ dz E (o + 1) (fun j => r (322*k + j)) H ∧ tr E (o + 60) H ∧ hy E (o + 119) k r H ∧ bo E (o + 475) bn (auE (au f bn)) (auS (au f bn)) f H)) 0 0 (bl o 477) := by
  refine k_hd (cc := cX6_undo) (maxL := 1) (ret := (some .int)) (by decide) rfl (Nat.le_of_ble_eq_true rfl) ?_
  intro p e s m below meth c ls S hr hlk hnm hK hP hl
  have hx := S.1
  have hb := S.2.1
  have hts := S.2.2.2.2
  obtain ⟨hP0, hP1, hP2, hP3, hP4⟩ := hP
  have hl : lv_has ls 1 [(0, .ref o)] := hl
  have hS : va_S (bl o 477) s.heap s.heap [] := va_S.rf
  refine lv_aload_n hx hb dX6_undo_0 rfl (lv_at hl 0 rfl) ?_
  refine k_get S hK hP0 rfl (fun _ h => List.mem_cons_of_mem _ (List.mem_append_left _ (List.mem_append_left _ (List.mem_append_left _ (List.mem_append_left _ (List.mem_append_left _ (List.mem_append_left _ (List.mem_append_right _ (h))))))))) 2 (by decide) (List.mem_cons_of_mem _ (List.mem_append_left _ (List.mem_append_left _ (List.mem_append_left _ (List.mem_append_left _ (List.mem_append_left _ (List.mem_append_left _ (List.mem_append_left _ (List.mem_append_left _ (List.mem_of_getElem? (i := 2) rfl)))))))))) rfl (v := .ref (o + 119)) rfl dX6_undo_1 ?_
  refine k_get S hK (hy_at hP3) rfl (fun _ h => List.mem_cons_of_mem _ (List.mem_append_left _ (List.mem_append_left _ (List.mem_append_left _ (List.mem_append_left _ (List.mem_append_left _ (List.mem_append_right _ (h)))))))) 1 (by decide) (List.mem_cons_of_mem _ (List.mem_append_left _ (List.mem_append_left _ (List.mem_append_left _ (List.mem_append_left _ (List.mem_append_left _ (List.mem_append_left _ (List.mem_append_left _ (List.mem_append_left _ (List.mem_of_getElem? (i := 3) rfl)))))))))) rfl (v := .int (nI (k + 1))) rfl dX6_undo_4 ?_
  refine lv_if_gt (tgt := 20) hx hb dX6_undo_7 (by decide) (fun c7 => ?_) (fun h => absurd (by have h9 := nI_lt (a := 0) (b := k + 1) (by omega) (by omega); rw [nI_0] at h9; exact h9) h)
  refine lv_aload_n hx hb dX6_undo_20 rfl (lv_at hl 0 rfl) ?_
  refine k_get S hK hP0 rfl (fun _ h => List.mem_cons_of_mem _ (List.mem_append_left _ (List.mem_append_left _ (List.mem_append_left _ (List.mem_append_left _ (List.mem_append_left _ (List.mem_append_left _ (List.mem_append_right _ (h))))))))) 2 (by decide) (List.mem_cons_of_mem _ (List.mem_append_left _ (List.mem_append_left _ (List.mem_append_left _ (List.mem_append_left _ (List.mem_append_left _ (List.mem_append_left _ (List.mem_append_left _ (List.mem_append_left _ (List.mem_of_getElem? (i := 2) rfl)))))))))) rfl (v := .ref (o + 119)) rfl dX6_undo_21 ?_
  refine lv_aload_n hx hb dX6_undo_24 rfl (lv_at hl 0 rfl) ?_
  refine k_get S hK hP0 rfl (fun _ h => List.mem_cons_of_mem _ (List.mem_append_left _ (List.mem_append_left _ (List.mem_append_left _ (List.mem_append_left _ (List.mem_append_left _ (List.mem_append_left _ (List.mem_append_right _ (h))))))))) 0 (by decide) (List.mem_cons_of_mem _ (List.mem_append_left _ (List.mem_append_left _ (List.mem_append_left _ (List.mem_append_left _ (List.mem_append_left _ (List.mem_append_left _ (List.mem_append_left _ (List.mem_append_left _ (List.mem_of_getElem? (i := 4) rfl)))))))))) rfl (v := .ref (o + 1)) rfl dX6_undo_25 ?_
  refine k_VM (As := [.ref (o + 1)]) (rest := []) S hK (c_X2_restore_r l E (o + 119) k r (o + 1) z (by omega) hIr hk6) gX6_undo_X2_restore rfl hd_X2_restore ⟨rfl, rfl⟩ ⟨Nat.le_of_ble_eq_true rfl, Nat.le_of_ble_eq_true rfl⟩ (k_recv hK (hy_at hP3) rfl) ⟨hP3, hP1⟩ rfl hl.1 rfl (Nat.le_of_ble_eq_true rfl) dX6_undo_28 ⟨Nat.le_of_ble_eq_true rfl, Nat.le_of_ble_eq_true rfl⟩ hS (fun q h => h.elim (fun h => bl_sub h (by omega)) (fun h => bl_sub h (by omega))) (fun q h => h.elim (fun h => bl_sub h (by omega)) (fun h => bl_sub h (by omega))) (fun H locs hQ zH fH hS => ?_)
  obtain ⟨hR0, hR1⟩ := hQ
  have hV1 := hR0
  have hV2 := hR1
  have hk0 := bo_fr2 hP4 (fun q hz hq => fH q hz (br_ne hq (by omega)))
  have hk1 := gg_fr2 hP0 (fun q hz hq => fH q hz (br_ne hq (by omega)))
  have hk3 := tr_fr2 hP2 (fun q hz hq => fH q hz (br_ne hq (by omega)))
  refine lv_aload_n hx hb dX6_undo_31 rfl (lv_at hl 0 rfl) ?_
  refine k_get S hK hk1 rfl (fun _ h => List.mem_cons_of_mem _ (List.mem_append_left _ (List.mem_append_left _ (List.mem_append_left _ (List.mem_append_left _ (List.mem_append_left _ (List.mem_append_left _ (List.mem_append_right _ (h))))))))) 2 (by decide) (List.mem_cons_of_mem _ (List.mem_append_left _ (List.mem_append_left _ (List.mem_append_left _ (List.mem_append_left _ (List.mem_append_left _ (List.mem_append_left _ (List.mem_append_left _ (List.mem_append_left _ (List.mem_of_getElem? (i := 2) rfl)))))))))) rfl (v := .ref (o + 119)) rfl dX6_undo_32 ?_
  refine k_get S hK (hy_at hV1) rfl (fun _ h => List.mem_cons_of_mem _ (List.mem_append_left _ (List.mem_append_left _ (List.mem_append_left _ (List.mem_append_left _ (List.mem_append_left _ (List.mem_append_right _ (h)))))))) 1 (by decide) (List.mem_cons_of_mem _ (List.mem_append_left _ (List.mem_append_left _ (List.mem_append_left _ (List.mem_append_left _ (List.mem_append_left _ (List.mem_append_left _ (List.mem_append_left _ (List.mem_append_left _ (List.mem_of_getElem? (i := 3) rfl)))))))))) rfl (v := .int (nI k)) rfl dX6_undo_35 ?_
  exact k_iretM hx hb hr hlk dX6_undo_38 hS ⟨hk1, hV2, hk3, hV1, hk0⟩ (rfl)
