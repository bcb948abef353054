def rm_X1_claimAmount : Room := { frames := 3, cells := 0, slots := 0, locals := 60 }
theorem hd_X1_claimAmount : k_hd1 yX1_claimAmount RX1 1 := by decide +kernel
set_option maxHeartbeats 4000000 in
set_option maxRecDepth 100000 in
theorem c_X1_claimAmount (l : Launch) (E : ke_E) (d : Nat) (z : Nat → Int32) (u : Nat) (hI : iv z) (hu : u < cn z) (ht : tst z u) : Met l yX1_claimAmount wsX1_claimAmount rm_X1_claimAmount (kp E [.ref d, .ref (d + 2*u + 19)] (dz E d z)) (qp (some (.int (amt z u)))) 0 0 nof := by
  refine k_hd (cc := cX1_claimAmount) (maxL := 5) (ret := (some .int)) (by decide) rfl (Nat.le_of_ble_eq_true rfl) ?_
  intro p e s m below meth c ls S hr hlk hnm hK hP hl
  have hx := S.1
  have hb := S.2.1
  have hts := S.2.2.2.2
  have hP : dz E d z s.heap := hP
  have hl : lv_has ls 5 [(0, .ref d), (1, .ref (d + 2*u + 19))] := hl
  have hc20 := iv_c hI
  have hup6 := iv_upl hI hu
  have hur4 := iv_url hI hu
  have hpv4 := iv_pvl hI hup6
  refine lv_aload_n hx hb dX1_claimAmount_0 rfl (lv_at hl 0 rfl) ?_
  refine lv_aload_n hx hb dX1_claimAmount_1 rfl (lv_at hl 1 rfl) ?_
  refine k_V (As := [.ref (d + 2*u + 19)]) (rest := []) S hK (c_X1_productUnder l E d z u hI hu) gX1_claimAmount_X1_productUnder rfl hd_X1_productUnder ⟨rfl, rfl⟩ ⟨Nat.le_of_ble_eq_true rfl, Nat.le_of_ble_eq_true rfl⟩ (k_recv hK (dz_d hP) rfl) hP rfl hl.1 rfl (Nat.le_of_ble_eq_true rfl) dX1_claimAmount_2 ⟨Nat.le_of_ble_eq_true rfl, Nat.le_of_ble_eq_true rfl⟩ ?_
  refine lv_astore_n (lv' := [(2, .ref (d + (up z u) + 5)), (0, .ref d), (1, .ref (d + 2*u + 19))]) hx hb dX1_claimAmount_5 rfl hl (by decide) rfl (fun ls hl => ?_)
  refine lv_aload_n hx hb dX1_claimAmount_6 rfl (lv_at hl 1 rfl) ?_
  refine lv_aload_n hx hb dX1_claimAmount_7 rfl (lv_at hl 0 rfl) ?_
  have hq1 := iv_pvl hI hup6
  refine k_get S hK (dz_p hP (up z u) hup6) rfl (fun _ h => List.mem_cons_of_mem _ (List.mem_append_left _ (List.mem_append_left _ (List.mem_append_left _ (List.mem_append_right _ (h)))))) 1 (by decide) (List.mem_cons_of_mem _ (List.mem_append_left _ (List.mem_append_left _ (List.mem_append_left _ (List.mem_append_left _ (List.mem_append_left _ (List.mem_of_getElem? (i := 0) rfl))))))) rfl (v := .int (nI (pv z (up z u)))) (congrArg (fun x => some (Value.int x)) ((iv_pv hI hup6))) dX1_claimAmount_8 ?_
  refine k_V (As := [.int (nI (pv z (up z u)))]) (rest := []) S hK (c_X1_vendorUnder l E d z (pv z (up z u)) (by omega)) gX1_claimAmount_X1_vendorUnder rfl hd_X1_vendorUnder ⟨rfl, rfl⟩ ⟨Nat.le_of_ble_eq_true rfl, Nat.le_of_ble_eq_true rfl⟩ (k_recv hK (dz_d hP) rfl) hP rfl hl.1 rfl (Nat.le_of_ble_eq_true rfl) dX1_claimAmount_11 ⟨Nat.le_of_ble_eq_true rfl, Nat.le_of_ble_eq_true rfl⟩ ?_
  refine k_get S hK (dz_v hP (pv z (up z u)) hq1) rfl (fun _ h => List.mem_cons_of_mem _ (List.mem_append_left _ (List.mem_append_left _ (List.mem_append_right _ (h))))) 0 (by decide) (List.mem_cons_of_mem _ (List.mem_append_left _ (List.mem_append_left _ (List.mem_append_left _ (List.mem_append_left _ (List.mem_append_left _ (List.mem_of_getElem? (i := 1) rfl))))))) rfl (v := .ref (d + 2*(pv z (up z u)) + 12)) rfl dX1_claimAmount_14 ?_
  refine lv_astore_n (lv' := [(3, .ref (d + 2*(pv z (up z u)) + 12)), (2, .ref (d + (up z u) + 5)), (0, .ref d), (1, .ref (d + 2*u + 19))]) hx hb dX1_claimAmount_17 rfl hl (by decide) rfl (fun ls hl => ?_)
  refine lv_aload_n hx hb dX1_claimAmount_18 rfl (lv_at hl 1 rfl) ?_
  refine k_get S hK (dz_p hP (up z u) hup6) rfl (fun _ h => List.mem_cons_of_mem _ (List.mem_append_left _ (List.mem_append_left _ (List.mem_append_left _ (List.mem_append_right _ (h)))))) 0 (by decide) (List.mem_cons_of_mem _ (List.mem_append_left _ (List.mem_append_left _ (List.mem_append_left _ (List.mem_append_left _ (List.mem_append_left _ (List.mem_of_getElem? (i := 2) rfl))))))) rfl (v := .int (z (3*up z u + 12))) rfl dX1_claimAmount_19 ?_
  refine lv_aload_n hx hb dX1_claimAmount_22 rfl (lv_at hl 0 rfl) ?_
  refine lv_aload_n hx hb dX1_claimAmount_23 rfl (lv_at hl 3 rfl) ?_
  have hq2 := iv_url hI hu
  refine k_get S hK (dz_u hP u hu) rfl (fun _ h => List.mem_cons_of_mem _ (List.mem_append_left _ (List.mem_append_right _ (h)))) 2 (by decide) (List.mem_cons_of_mem _ (List.mem_append_left _ (List.mem_append_left _ (List.mem_append_left _ (List.mem_append_left _ (List.mem_append_left _ (List.mem_of_getElem? (i := 3) rfl))))))) rfl (v := .int (nI (ur z u))) (congrArg (fun x => some (Value.int x)) ((iv_ur hI hu))) dX1_claimAmount_24 ?_
  refine lv_aload_n hx hb dX1_claimAmount_27 rfl (lv_at hl 0 rfl) ?_
  refine k_alen hx hb hK (t := 0) rfl (dz_ag hP (pv z (up z u)) hq1) dX1_claimAmount_28 ?_
  refine k_top (y := nI 4) rfl ?_
  refine k_SN (q := (RX1, 74, yX6_inside, RX6)) (As := [.int (nI (ur z u)), .int (nI 4)]) (rest := [.ref (d + 2*(pv z (up z u)) + 12), .int (z (3*up z u + 12))]) S hK (List.mem_of_getElem? (i := 7) rfl) (c_X6_inside l E (ur z u) 4 (by omega) (by omega)) ggX1_claimAmount_X6_inside rfl hd_X6_inside (List.mem_cons_of_mem _ (List.mem_append_left _ (List.mem_append_left _ (List.mem_append_left _ (List.mem_append_left _ (List.mem_append_left _ (List.mem_of_getElem? (i := 11) rfl))))))) (List.mem_cons_of_mem _ (List.mem_append_left _ (List.mem_append_left _ (List.mem_append_left _ (List.mem_append_left _ (List.mem_append_left _ (List.mem_of_getElem? (i := 12) rfl))))))) ⟨rfl, rfl⟩ ⟨Nat.le_of_ble_eq_true rfl, Nat.le_of_ble_eq_true rfl⟩ trivial rfl hl.1 rfl (Nat.le_of_ble_eq_true rfl) dX1_claimAmount_29 ⟨Nat.le_of_ble_eq_true rfl, Nat.le_of_ble_eq_true rfl⟩ ?_
  refine k_iald hx hb hK (dz_ag hP (pv z (up z u)) hq1) (by omega) (by decide) (v := z (8*pv z (up z u) + ur z u + 34)) (congrArg _ (show 8*(pv z (up z u)) + (ur z u) + 34 = 8*pv z (up z u) + ur z u + 34 by omega)) dX1_claimAmount_32 ?_
  refine lv_imul hx hb dX1_claimAmount_33 ?_
  refine lv_bipush (v := nI 100) hx hb dX1_claimAmount_34 (by decide) ?_
  refine lv_idiv hx hb dX1_claimAmount_36 (by decide) ?_
  refine lv_istore (lv' := [(4, .int (((z (3*up z u + 12)) * (z (8*pv z (up z u) + ur z u + 34))) / (nI 100))), (3, .ref (d + 2*(pv z (up z u)) + 12)), (2, .ref (d + (up z u) + 5)), (0, .ref d), (1, .ref (d + 2*u + 19))]) hx hb dX1_claimAmount_37 hl (by decide) rfl (fun ls hl => ?_)
  refine lv_iload hx hb dX1_claimAmount_39 (lv_at hl 0 rfl) ?_
  refine lv_aload_n hx hb dX1_claimAmount_41 rfl (lv_at hl 3 rfl) ?_
  refine lv_aload_n hx hb dX1_claimAmount_42 rfl (lv_at hl 4 rfl) ?_
  refine k_V (As := [.ref (d + 2*u + 19)]) (rest := [.int (((z (3*up z u + 12)) * (z (8*pv z (up z u) + ur z u + 34))) / (nI 100))]) S hK (c_X1_gradeOf l E d z u hI hu) gX1_claimAmount_X1_gradeOf rfl hd_X1_gradeOf ⟨rfl, rfl⟩ ⟨Nat.le_of_ble_eq_true rfl, Nat.le_of_ble_eq_true rfl⟩ (k_recv hK (dz_d hP) rfl) hP rfl hl.1 rfl (Nat.le_of_ble_eq_true rfl) dX1_claimAmount_43 ⟨Nat.le_of_ble_eq_true rfl, Nat.le_of_ble_eq_true rfl⟩ ?_
  refine k_top (y := gr z u (nI 0)) (grT_t ht) ?_
  refine lv_imul hx hb dX1_claimAmount_46 ?_
  refine lv_iconst (v := nI 3) hx hb dX1_claimAmount_47 (by decide) ?_
  refine lv_idiv hx hb dX1_claimAmount_48 (by decide) ?_
  exact k_iret hx hb hr hlk dX1_claimAmount_49 (rfl)
def rm_X1_payIfPossible : Room := { frames := 2, cells := 0, slots := 0, locals := 42 }
theorem hd_X1_payIfPossible : k_hd1 yX1_payIfPossible RX1 1 := by decide +kernel
set_option maxHeartbeats 4000000 in
set_option maxRecDepth 100000 in
theorem c_X1_payIfPossible (l : Launch) (E : ke_E) (d : Nat) (z : Nat → Int32) (u : Nat) (hI : iv z) (hu : u < cn z) : Met l yX1_payIfPossible wsX1_payIfPossible rm_X1_payIfPossible (kp E [.ref d, .ref (d + 2*u + 19)] (dz E d z)) (qm (some (.int (bI (payP z u)))) (bl d 59) (dz E d (pvZ z u))) 0 0 (bl d 59) := by
  refine k_hd (cc := cX1_payIfPossible) (maxL := 3) (ret := (some .boolean)) (by decide) rfl (Nat.le_of_ble_eq_true rfl) ?_
  intro p e s m below meth c ls S hr hlk hnm hK hP hl
  have hx := S.1
  have hb := S.2.1
  have hts := S.2.2.2.2
  have hP : dz E d z s.heap := hP
  have hl : lv_has ls 3 [(0, .ref d), (1, .ref (d + 2*u + 19))] := hl
  have hS : va_S (bl d 59) s.heap s.heap [] := va_S.rf
  have hc20 := iv_c hI
  have hub4 := iv_ubl hI hu
  refine lv_aload_n hx hb dX1_payIfPossible_0 rfl (lv_at hl 0 rfl) ?_
  refine lv_aload_n hx hb dX1_payIfPossible_1 rfl (lv_at hl 1 rfl) ?_
  have hq1 := iv_ubl hI hu
  refine k_get S hK (dz_u hP u hu) rfl (fun _ h => List.mem_cons_of_mem _ (List.mem_append_left _ (List.mem_append_left _ (List.mem_append_right _ (h))))) 6 (by decide) (List.mem_cons_of_mem _ (List.mem_append_left _ (List.mem_append_left _ (List.mem_append_left _ (List.mem_of_getElem? (i := 0) rfl))))) rfl (v := .int (nI (ub z u))) (congrArg (fun x => some (Value.int x)) ((iv_ub hI hu))) dX1_payIfPossible_2 ?_
  refine k_V (As := [.int (nI (ub z u))]) (rest := []) S hK (c_X1_vendorUnder l E d z (ub z u) (by omega)) gX1_payIfPossible_X1_vendorUnder rfl hd_X1_vendorUnder ⟨rfl, rfl⟩ ⟨Nat.le_of_ble_eq_true rfl, Nat.le_of_ble_eq_true rfl⟩ (k_recv hK (dz_d hP) rfl) hP rfl hl.1 rfl (Nat.le_of_ble_eq_true rfl) dX1_payIfPossible_5 ⟨Nat.le_of_ble_eq_true rfl, Nat.le_of_ble_eq_true rfl⟩ ?_
  refine lv_astore_n (lv' := [(2, .ref (d + 2*(ub z u) + 11)), (0, .ref d), (1, .ref (d + 2*u + 19))]) hx hb dX1_payIfPossible_8 rfl hl (by decide) rfl (fun ls hl => ?_)
  refine lv_aload_n hx hb dX1_payIfPossible_9 rfl (lv_at hl 0 rfl) ?_
  refine lv_aload_n hx hb dX1_payIfPossible_10 rfl (lv_at hl 2 rfl) ?_
  refine k_get S hK (dz_u hP u hu) rfl (fun _ h => List.mem_cons_of_mem _ (List.mem_append_left _ (List.mem_append_left _ (List.mem_append_right _ (h))))) 5 (by decide) (List.mem_cons_of_mem _ (List.mem_append_left _ (List.mem_append_left _ (List.mem_append_left _ (List.mem_of_getElem? (i := 1) rfl))))) rfl (v := .int (z (13*u + 70))) rfl dX1_payIfPossible_11 ?_
  refine k_V (As := [.int (z (13*u + 70))]) (rest := []) S hK (c_X5_canPay l E d z (ub z u) (z (13*u + 70)) (by omega)) gX1_payIfPossible_X5_canPay rfl hd_X5_canPay ⟨rfl, rfl⟩ ⟨Nat.le_of_ble_eq_true rfl, Nat.le_of_ble_eq_true rfl⟩ (k_recv hK (dz_v hP (ub z u) hq1) rfl) hP rfl hl.1 rfl (Nat.le_of_ble_eq_true rfl) dX1_payIfPossible_14 ⟨Nat.le_of_ble_eq_true rfl, Nat.le_of_ble_eq_true rfl⟩ ?_
  refine b_ne (tgt := 22) hx hb dX1_payIfPossible_17 (by decide) (fun c17 => ?_) (fun c17 => ?_)
  · refine lv_aload_n hx hb dX1_payIfPossible_22 rfl (lv_at hl 0 rfl) ?_
    refine lv_aload_n hx hb dX1_payIfPossible_23 rfl (lv_at hl 2 rfl) ?_
    refine k_get S hK (dz_u hP u hu) rfl (fun _ h => List.mem_cons_of_mem _ (List.mem_append_left _ (List.mem_append_left _ (List.mem_append_right _ (h))))) 5 (by decide) (List.mem_cons_of_mem _ (List.mem_append_left _ (List.mem_append_left _ (List.mem_append_left _ (List.mem_of_getElem? (i := 1) rfl))))) rfl (v := .int (z (13*u + 70))) rfl dX1_payIfPossible_24 ?_
    refine k_VM (As := [.int (z (13*u + 70))]) (rest := []) S hK (c_X5_payClaim l E d z (ub z u) (z (13*u + 70)) (by omega)) gX1_payIfPossible_X5_payClaim rfl hd_X5_payClaim ⟨rfl, rfl⟩ ⟨Nat.le_of_ble_eq_true rfl, Nat.le_of_ble_eq_true rfl⟩ (k_recv hK (dz_v hP (ub z u) hq1) rfl) hP rfl hl.1 rfl (Nat.le_of_ble_eq_true rfl) dX1_payIfPossible_27 ⟨Nat.le_of_ble_eq_true rfl, Nat.le_of_ble_eq_true rfl⟩ hS (fun q h => h) (fun q h => h) (fun H locs hQ zH fH hS => ?_)
    have hP := hQ
    refine lv_iconst (v := nI 1) hx hb dX1_payIfPossible_30 (by decide) ?_
    exact k_bretM hx hb hr hlk dX1_payIfPossible_31 rfl hS (show dz E d (pvZ z u) _ from (by rw [show pvZ z u = _ from iF_t (payP_c.mp c17)]; exact hP)) (bI_t (payP_c.mp c17))
  · refine lv_iconst (v := nI 0) hx hb dX1_payIfPossible_20 (by decide) ?_
    exact k_bretM hx hb hr hlk dX1_payIfPossible_21 rfl hS (show dz E d (pvZ z u) _ from (by rw [show pvZ z u = _ from iF_f (fun h => c17 (payP_c.mpr h))]; exact hP)) (bI_f (fun h => c17 (payP_c.mpr h)))
def rm_X1_makeClaim : Room := { frames := 4, cells := 0, slots := 0, locals := 84 }
theorem hd_X1_makeClaim : k_hd1 yX1_makeClaim RX1 1 := by decide +kernel
set_option maxHeartbeats 4000000 in
set_option maxRecDepth 100000 in
theorem c_X1_makeClaim (l : Launch) (E : ke_E) (d : Nat) (z : Nat → Int32) (u : Nat) (hI : iv z) (hu : u < cn z) (ht : tst z u) (h72 : z (13*u + 72) = 0) : Met l yX1_makeClaim wsX1_makeClaim rm_X1_makeClaim (kp E [.ref d, .ref (d + 2*u + 19)] (dz E d z)) (qm (some (.int (bI (payP (cm3 z u) u)))) (bl d 59) (dz E d (cmZ z u))) 0 0 (bl d 59) := by
  refine k_hd (cc := cX1_makeClaim) (maxL := 2) (ret := (some .boolean)) (by decide) rfl (Nat.le_of_ble_eq_true rfl) ?_
  intro p e s m below meth c ls S hr hlk hnm hK hP hl
  have hx := S.1
  have hb := S.2.1
  have hts := S.2.2.2.2
  have hP : dz E d z s.heap := hP
  have hl : lv_has ls 2 [(0, .ref d), (1, .ref (d + 2*u + 19))] := hl
  have hS : va_S (bl d 59) s.heap s.heap [] := va_S.rf
  have hc20 := iv_c hI
  have hup6 := iv_upl hI hu
  have hpv4 := iv_pvl hI hup6
  have hup6b : up (upd z (13*u + 70) (amt z u)) u < 6 := iv_upl (iv_cm1 hI hu) (by rw [cn_u (by omega)]; exact hu)
  refine lv_aload_n hx hb dX1_makeClaim_0 rfl (lv_at hl 1 rfl) ?_
  refine lv_aload_n hx hb dX1_makeClaim_1 rfl (lv_at hl 0 rfl) ?_
  refine lv_aload_n hx hb dX1_makeClaim_2 rfl (lv_at hl 1 rfl) ?_
  refine k_V (As := [.ref (d + 2*u + 19)]) (rest := [.ref (d + 2*u + 19)]) S hK (c_X1_claimAmount l E d z u hI hu ht) gX1_makeClaim_X1_claimAmount rfl hd_X1_claimAmount ⟨rfl, rfl⟩ ⟨Nat.le_of_ble_eq_true rfl, Nat.le_of_ble_eq_true rfl⟩ (k_recv hK (dz_d hP) rfl) hP rfl hl.1 rfl (Nat.le_of_ble_eq_true rfl) dX1_makeClaim_3 ⟨Nat.le_of_ble_eq_true rfl, Nat.le_of_ble_eq_true rfl⟩ ?_
  refine dz_putU hu S hK hP (fun _ h => List.mem_cons_of_mem _ (List.mem_append_left _ (List.mem_append_left _ (List.mem_append_left _ (List.mem_append_right _ (h)))))) 5 (by decide) (List.mem_cons_of_mem _ (List.mem_append_left _ (List.mem_append_left _ (List.mem_append_left _ (List.mem_append_left _ (List.mem_append_left _ (List.mem_of_getElem? (i := 0) rfl))))))) rfl rfl rfl rfl (j := 70) (fun z9 => by simp [un_F, upd]) (by decide) hS (fun _ h => h) dX1_makeClaim_6 (fun H locs hP zH fH hS => ?_)
  refine lv_aload_n hx hb dX1_makeClaim_9 rfl (lv_at hl 1 rfl) ?_
  refine lv_aload_n hx hb dX1_makeClaim_10 rfl (lv_at hl 0 rfl) ?_
  refine lv_aload_n hx hb dX1_makeClaim_11 rfl (lv_at hl 1 rfl) ?_
  refine k_V (As := [.ref (d + 2*u + 19)]) (rest := [.ref (d + 2*u + 19)]) S hK (c_X1_productUnder l E d (upd z (13*u + 70) (amt z u)) u (iv_cm1 hI hu) (by rw [cn_u (by omega)]; exact hu)) gX1_makeClaim_X1_productUnder rfl hd_X1_productUnder ⟨rfl, rfl⟩ ⟨Nat.le_of_ble_eq_true rfl, Nat.le_of_ble_eq_true rfl⟩ (k_recv hK (dz_d hP) rfl) hP rfl hl.1 rfl (Nat.le_of_ble_eq_true rfl) dX1_makeClaim_12 ⟨Nat.le_of_ble_eq_true rfl, Nat.le_of_ble_eq_true rfl⟩ ?_
  have hq1 := iv_pvl hI (iv_upl (iv_cm1 hI hu) (by rw [cn_u (by omega)]; exact hu))
  refine k_get S hK (dz_p hP (up (upd z (13*u + 70) (amt z u)) u) (iv_upl (iv_cm1 hI hu) (by rw [cn_u (by omega)]; exact hu))) rfl (fun _ h => List.mem_cons_of_mem _ (List.mem_append_left _ (List.mem_append_left _ (List.mem_append_right _ (h))))) 1 (by decide) (List.mem_cons_of_mem _ (List.mem_append_left _ (List.mem_append_left _ (List.mem_append_left _ (List.mem_append_left _ (List.mem_append_left _ (List.mem_of_getElem? (i := 1) rfl))))))) rfl (v := .int (nI (pv z (up (upd z (13*u + 70) (amt z u)) u)))) (congrArg (fun x => some (Value.int x)) ((upd_n (by omega)).trans ((iv_pv hI (iv_upl (iv_cm1 hI hu) (by rw [cn_u (by omega)]; exact hu)))))) dX1_makeClaim_15 ?_
  refine k_top (y := nI (pv z (up z u))) (congrArg (fun i9 => nI (pv z i9)) (show up (upd z (13*u + 70) (amt z u)) u = up z u by unfold up; rw [upd_n (by omega)])) ?_
  refine dz_putU (by rw [cn_u (by omega)]; exact hu) S hK hP (fun _ h => List.mem_cons_of_mem _ (List.mem_append_left _ (List.mem_append_left _ (List.mem_append_left _ (List.mem_append_right _ (h)))))) 6 (by decide) (List.mem_cons_of_mem _ (List.mem_append_left _ (List.mem_append_left _ (List.mem_append_left _ (List.mem_append_left _ (List.mem_append_left _ (List.mem_of_getElem? (i := 2) rfl))))))) rfl rfl rfl rfl (j := 71) (fun z9 => by simp [un_F, upd]) (by decide) hS (fun _ h => h) dX1_makeClaim_18 (fun H locs hP zH fH hS => ?_)
  refine lv_aload_n hx hb dX1_makeClaim_21 rfl (lv_at hl 1 rfl) ?_
  refine lv_aload_n hx hb dX1_makeClaim_22 rfl (lv_at hl 0 rfl) ?_
  refine lv_aload_n hx hb dX1_makeClaim_23 rfl (lv_at hl 1 rfl) ?_
  refine k_VM (As := [.ref (d + 2*u + 19)]) (rest := [.ref (d + 2*u + 19)]) S hK (c_X1_payIfPossible l E d (upd (upd z (13*u + 70) (amt z u)) (13*u + 71) (nI (pv z (up z u)))) u (iv_u9 (iv_cm1 hI hu) (nI_rg (by omega) (by omega) (by omega))) (by rw [cn_u (by omega), cn_u (by omega)]; exact hu)) gX1_makeClaim_X1_payIfPossible rfl hd_X1_payIfPossible ⟨rfl, rfl⟩ ⟨Nat.le_of_ble_eq_true rfl, Nat.le_of_ble_eq_true rfl⟩ (k_recv hK (dz_d hP) rfl) hP rfl hl.1 rfl (Nat.le_of_ble_eq_true rfl) dX1_makeClaim_24 ⟨Nat.le_of_ble_eq_true rfl, Nat.le_of_ble_eq_true rfl⟩ hS (fun q h => h) (fun q h => h) (fun H locs hQ zH fH hS => ?_)
  have hP := hQ
  refine dz_putU (by rw [cn_pvZ, cn_u (by omega), cn_u (by omega)]; exact hu) S hK hP (fun _ h => List.mem_cons_of_mem _ (List.mem_append_left _ (List.mem_append_left _ (List.mem_append_left _ (List.mem_append_right _ (h)))))) 7 (by decide) (List.mem_cons_of_mem _ (List.mem_append_left _ (List.mem_append_left _ (List.mem_append_left _ (List.mem_append_left _ (List.mem_append_left _ (List.mem_of_getElem? (i := 3) rfl))))))) rfl rfl (bI_nar _) (bI_fit _) (j := 72) (fun z9 => by simp [un_F, upd]) (by decide) hS (fun _ h => h) dX1_makeClaim_27 (fun H locs hP zH fH hS => ?_)
  refine lv_aload_n hx hb dX1_makeClaim_30 rfl (lv_at hl 1 rfl) ?_
  refine k_get S hK (dz_u hP u (by rw [cn_u (by omega)]; exact (by rw [cn_pvZ, cn_u (by omega), cn_u (by omega)]; exact hu))) rfl (fun _ h => List.mem_cons_of_mem _ (List.mem_append_left _ (List.mem_append_left _ (List.mem_append_left _ (List.mem_append_right _ (h)))))) 7 (by decide) (List.mem_cons_of_mem _ (List.mem_append_left _ (List.mem_append_left _ (List.mem_append_left _ (List.mem_append_left _ (List.mem_append_left _ (List.mem_of_getElem? (i := 3) rfl))))))) rfl (v := .int (bI (payP (upd (upd z (13*u + 70) (amt z u)) (13*u + 71) (nI (pv z (up z u)))) u))) (congrArg (fun x => some (Value.int x)) (upd_s)) dX1_makeClaim_31 ?_
  exact k_bretM hx hb hr hlk dX1_makeClaim_34 (bI_nar _) hS (show dz E d (cmZ z u) _ from (dz_z hP (ag_tr (pay_ag (by rw [upd_n (by omega), upd_n (by omega)]; exact h72)) pay_6))) (bI_c payP_6)
def rm_X1_move_1 : Room := { frames := 1, cells := 0, slots := 0, locals := 22 }
theorem hd_X1_move : k_hd1 yX1_move RX1 2 := by decide +kernel
set_option maxHeartbeats 4000000 in
set_option maxRecDepth 100000 in
theorem c_X1_move_1 (l : Launch) (E : ke_E) (d : Nat) (z : Nat → Int32) (u : Nat) (hI : iv z) (hu : u < cn z) : Met l yX1_move wsX1_move rm_X1_move_1 (kp E [.ref d, .ref (d + 2*u + 19), .int (nI 1)] (dz E d z)) (qm (some (.int (brg z u 1))) (bl d 59) (dz E d (sdZ z u 1))) 0 0 (bl d 59) := by
  refine k_hd (cc := cX1_move) (maxL := 4) (ret := (some .int)) (by decide) rfl (Nat.le_of_ble_eq_true rfl) ?_
  intro p e s m below meth c ls S hr hlk hnm hK hP hl
  have hx := S.1
  have hb := S.2.1
  have hts := S.2.2.2.2
  have hP : dz E d z s.heap := hP
  have hl : lv_has ls 4 [(0, .ref d), (1, .ref (d + 2*u + 19)), (2, .int (nI 1))] := hl
  have hS : va_S (bl d 59) s.heap s.heap [] := va_S.rf
  have hc20 := iv_c hI
  have hup6 := iv_upl hI hu
  have hpv4 := iv_pvl hI hup6
  refine lv_aload_n hx hb dX1_move_0 rfl (lv_at hl 0 rfl) ?_
  refine lv_aload_n hx hb dX1_move_1 rfl (lv_at hl 1 rfl) ?_
  refine lv_iload_n hx hb dX1_move_2 rfl (lv_at hl 2 rfl) ?_
  refine k_V (As := [.ref (d + 2*u + 19), .int (nI 1)]) (rest := []) S hK (c_X1_moneyOn_1 l E d z u hI hu) gX1_move_X1_moneyOn rfl hd_X1_moneyOn ⟨rfl, rfl⟩ ⟨Nat.le_of_ble_eq_true rfl, Nat.le_of_ble_eq_true rfl⟩ (k_recv hK (dz_d hP) rfl) hP rfl hl.1 rfl (Nat.le_of_ble_eq_true rfl) dX1_move_3 ⟨Nat.le_of_ble_eq_true rfl, Nat.le_of_ble_eq_true rfl⟩ ?_
  refine lv_istore_n (lv' := [(3, .int (brg z u 1)), (0, .ref d), (1, .ref (d + 2*u + 19)), (2, .int (nI 1))]) hx hb dX1_move_6 rfl hl (by decide) rfl (fun ls hl => ?_)
  refine lv_iload_n hx hb dX1_move_7 rfl (lv_at hl 3 rfl) ?_
  refine lv_iconst (v := nI 4) hx hb dX1_move_8 (by decide) ?_
  refine n_ine (tgt := 33) hx hb dX1_move_9 (by decide) (by omega) (by omega) (fun c9 => ?_) (fun h => absurd h (by decide))
  refine lv_iload_n hx hb dX1_move_33 rfl (lv_at hl 3 rfl) ?_
  refine lv_iconst (v := nI 1) hx hb dX1_move_34 (by decide) ?_
  refine n_ine (tgt := 48) hx hb dX1_move_35 (by decide) (by omega) (by omega) (fun h => absurd h (by decide)) (fun c35 => ?_)
  refine lv_aload_n hx hb dX1_move_38 rfl (lv_at hl 2 rfl) ?_
  refine lv_dup hx hb dX1_move_39 rfl ?_
  refine k_get S hK (dz_u hP u hu) rfl (fun _ h => List.mem_cons_of_mem _ (List.mem_append_left _ (List.mem_append_right _ (h)))) 4 (by decide) (List.mem_cons_of_mem _ (List.mem_append_left _ (List.mem_append_left _ (List.mem_append_left _ (List.mem_append_left _ (List.mem_append_left _ (List.mem_of_getElem? (i := 2) rfl))))))) rfl (v := .int (z (13*u + 69))) rfl dX1_move_40 ?_
  refine lv_iconst (v := nI 1) hx hb dX1_move_43 (by decide) ?_
  refine lv_iadd hx hb dX1_move_44 ?_
  refine dz_putU hu S hK hP (fun _ h => List.mem_cons_of_mem _ (List.mem_append_left _ (List.mem_append_right _ (h)))) 4 (by decide) (List.mem_cons_of_mem _ (List.mem_append_left _ (List.mem_append_left _ (List.mem_append_left _ (List.mem_append_left _ (List.mem_append_left _ (List.mem_of_getElem? (i := 2) rfl))))))) rfl rfl rfl rfl (j := 69) (fun z9 => by simp [un_F, upd]) (by decide) hS (fun _ h => h) dX1_move_45 (fun H locs hP zH fH hS => ?_)
  refine lv_aload_n hx hb dX1_move_48 rfl (lv_at hl 2 rfl) ?_
  refine lv_iload_n hx hb dX1_move_49 rfl (lv_at hl 0 rfl) ?_
  refine dz_putU (by rw [cn_u (by omega)]; exact hu) S hK hP (fun _ h => List.mem_cons_of_mem _ (List.mem_append_left _ (List.mem_append_right _ (h)))) 8 (by decide) (List.mem_cons_of_mem _ (List.mem_append_left _ (List.mem_append_left _ (List.mem_append_left _ (List.mem_append_left _ (List.mem_append_left _ (List.mem_of_getElem? (i := 3) rfl))))))) rfl rfl rfl rfl (j := 73) (fun z9 => by simp [un_F, upd]) (by decide) hS (fun _ h => h) dX1_move_50 (fun H locs hP zH fH hS => ?_)
  refine lv_aload_n hx hb dX1_move_53 rfl (lv_at hl 2 rfl) ?_
  refine lv_iload_n hx hb dX1_move_54 rfl (lv_at hl 3 rfl) ?_
  refine dz_putU (by rw [cn_u (by omega), cn_u (by omega)]; exact hu) S hK hP (fun _ h => List.mem_cons_of_mem _ (List.mem_append_left _ (List.mem_append_right _ (h)))) 3 (by decide) (List.mem_cons_of_mem _ (List.mem_append_left _ (List.mem_append_left _ (List.mem_append_left _ (List.mem_append_left _ (List.mem_append_left _ (List.mem_of_getElem? (i := 4) rfl))))))) rfl rfl rfl rfl (j := 68) (fun z9 => by simp [un_F, upd]) (by decide) hS (fun _ h => h) dX1_move_55 (fun H locs hP zH fH hS => ?_)
  refine lv_iload_n hx hb dX1_move_58 rfl (lv_at hl 0 rfl) ?_
  exact k_iretM hx hb hr hlk dX1_move_59 hS (show dz E d (sdZ z u 1) _ from (dz_z hP (mv_1 hpv4))) (rfl)
def rm_X1_move_2 : Room := { frames := 4, cells := 0, slots := 0, locals := 87 }
set_option maxHeartbeats 4000000 in
set_option maxRecDepth 100000 in
theorem c_X1_move_2 (l : Launch) (E : ke_E) (d : Nat) (z : Nat → Int32) (u : Nat) (hI : iv z) (hu : u < cn z) (ht : tst z u) : Met l yX1_move wsX1_move rm_X1_move_2 (kp E [.ref d, .ref (d + 2*u + 19), .int (nI 2)] (dz E d z)) (qm (some (.int (brg z u 2))) (bl d 59) (dz E d (sdZ z u 2))) 0 0 (bl d 59) := by
  refine k_hd (cc := cX1_move) (maxL := 4) (ret := (some .int)) (by decide) rfl (Nat.le_of_ble_eq_true rfl) ?_
  intro p e s m below meth c ls S hr hlk hnm hK hP hl
  have hx := S.1
  have hb := S.2.1
  have hts := S.2.2.2.2
  have hP : dz E d z s.heap := hP
  have hl : lv_has ls 4 [(0, .ref d), (1, .ref (d + 2*u + 19)), (2, .int (nI 2))] := hl
  have hS : va_S (bl d 59) s.heap s.heap [] := va_S.rf
  have hc20 := iv_c hI
  have hup6 := iv_upl hI hu
  have hpv4 := iv_pvl hI hup6
  refine lv_aload_n hx hb dX1_move_0 rfl (lv_at hl 0 rfl) ?_
  refine lv_aload_n hx hb dX1_move_1 rfl (lv_at hl 1 rfl) ?_
  refine lv_iload_n hx hb dX1_move_2 rfl (lv_at hl 2 rfl) ?_
  refine k_V (As := [.ref (d + 2*u + 19), .int (nI 2)]) (rest := []) S hK (c_X1_moneyOn_2 l E d z u hI hu ht) gX1_move_X1_moneyOn rfl hd_X1_moneyOn ⟨rfl, rfl⟩ ⟨Nat.le_of_ble_eq_true rfl, Nat.le_of_ble_eq_true rfl⟩ (k_recv hK (dz_d hP) rfl) hP rfl hl.1 rfl (Nat.le_of_ble_eq_true rfl) dX1_move_3 ⟨Nat.le_of_ble_eq_true rfl, Nat.le_of_ble_eq_true rfl⟩ ?_
  refine lv_istore_n (lv' := [(3, .int (brg z u 2)), (0, .ref d), (1, .ref (d + 2*u + 19)), (2, .int (nI 2))]) hx hb dX1_move_6 rfl hl (by decide) rfl (fun ls hl => ?_)
  refine lv_iload_n hx hb dX1_move_7 rfl (lv_at hl 3 rfl) ?_
  refine lv_iconst (v := nI 4) hx hb dX1_move_8 (by decide) ?_
  refine n_ine (tgt := 33) hx hb dX1_move_9 (by decide) (by omega) (by omega) (fun c9 => ?_) (fun h => absurd h (by decide))
  refine lv_iload_n hx hb dX1_move_33 rfl (lv_at hl 3 rfl) ?_
  refine lv_iconst (v := nI 1) hx hb dX1_move_34 (by decide) ?_
  refine n_ine (tgt := 48) hx hb dX1_move_35 (by decide) (by omega) (by omega) (fun c35 => ?_) (fun h => absurd h (by decide))
  refine lv_aload_n hx hb dX1_move_48 rfl (lv_at hl 2 rfl) ?_
  refine lv_iload_n hx hb dX1_move_49 rfl (lv_at hl 0 rfl) ?_
  refine dz_putU hu S hK hP (fun _ h => List.mem_cons_of_mem _ (List.mem_append_left _ (List.mem_append_right _ (h)))) 8 (by decide) (List.mem_cons_of_mem _ (List.mem_append_left _ (List.mem_append_left _ (List.mem_append_left _ (List.mem_append_left _ (List.mem_append_left _ (List.mem_of_getElem? (i := 3) rfl))))))) rfl rfl rfl rfl (j := 73) (fun z9 => by simp [un_F, upd]) (by decide) hS (fun _ h => h) dX1_move_50 (fun H locs hP zH fH hS => ?_)
  refine lv_aload_n hx hb dX1_move_53 rfl (lv_at hl 2 rfl) ?_
  refine lv_iload_n hx hb dX1_move_54 rfl (lv_at hl 3 rfl) ?_
  refine dz_putU (by rw [cn_u (by omega)]; exact hu) S hK hP (fun _ h => List.mem_cons_of_mem _ (List.mem_append_left _ (List.mem_append_right _ (h)))) 3 (by decide) (List.mem_cons_of_mem _ (List.mem_append_left _ (List.mem_append_left _ (List.mem_append_left _ (List.mem_append_left _ (List.mem_append_left _ (List.mem_of_getElem? (i := 4) rfl))))))) rfl rfl rfl rfl (j := 68) (fun z9 => by simp [un_F, upd]) (by decide) hS (fun _ h => h) dX1_move_55 (fun H locs hP zH fH hS => ?_)
  refine lv_iload_n hx hb dX1_move_58 rfl (lv_at hl 0 rfl) ?_
  exact k_iretM hx hb hr hlk dX1_move_59 hS (show dz E d (sdZ z u 2) _ from (dz_z hP (mv_o hpv4 rfl rfl))) (rfl)
def rm_X1_move_3 : Room := { frames := 1, cells := 0, slots := 0, locals := 22 }
set_option maxHeartbeats 4000000 in
set_option maxRecDepth 100000 in
theorem c_X1_move_3 (l : Launch) (E : ke_E) (d : Nat) (z : Nat → Int32) (u : Nat) (hI : iv z) (hu : u < cn z) : Met l yX1_move wsX1_move rm_X1_move_3 (kp E [.ref d, .ref (d + 2*u + 19), .int (nI 3)] (dz E d z)) (qm (some (.int (brg z u 3))) (bl d 59) (dz E d (sdZ z u 3))) 0 0 (bl d 59) := by
  refine k_hd (cc := cX1_move) (maxL := 4) (ret := (some .int)) (by decide) rfl (Nat.le_of_ble_eq_true rfl) ?_
  intro p e s m below meth c ls S hr hlk hnm hK hP hl
  have hx := S.1
  have hb := S.2.1
  have hts := S.2.2.2.2
  have hP : dz E d z s.heap := hP
  have hl : lv_has ls 4 [(0, .ref d), (1, .ref (d + 2*u + 19)), (2, .int (nI 3))] := hl
  have hS : va_S (bl d 59) s.heap s.heap [] := va_S.rf
  have hc20 := iv_c hI
  have hup6 := iv_upl hI hu
  have hpv4 := iv_pvl hI hup6
  refine lv_aload_n hx hb dX1_move_0 rfl (lv_at hl 0 rfl) ?_
  refine lv_aload_n hx hb dX1_move_1 rfl (lv_at hl 1 rfl) ?_
  refine lv_iload_n hx hb dX1_move_2 rfl (lv_at hl 2 rfl) ?_
  refine k_V (As := [.ref (d + 2*u + 19), .int (nI 3)]) (rest := []) S hK (c_X1_moneyOn_3 l E d z u hI hu) gX1_move_X1_moneyOn rfl hd_X1_moneyOn ⟨rfl, rfl⟩ ⟨Nat.le_of_ble_eq_true rfl, Nat.le_of_ble_eq_true rfl⟩ (k_recv hK (dz_d hP) rfl) hP rfl hl.1 rfl (Nat.le_of_ble_eq_true rfl) dX1_move_3 ⟨Nat.le_of_ble_eq_true rfl, Nat.le_of_ble_eq_true rfl⟩ ?_
  refine lv_istore_n (lv' := [(3, .int (brg z u 3)), (0, .ref d), (1, .ref (d + 2*u + 19)), (2, .int (nI 3))]) hx hb dX1_move_6 rfl hl (by decide) rfl (fun ls hl => ?_)
  refine lv_iload_n hx hb dX1_move_7 rfl (lv_at hl 3 rfl) ?_
  refine lv_iconst (v := nI 4) hx hb dX1_move_8 (by decide) ?_
  refine n_ine (tgt := 33) hx hb dX1_move_9 (by decide) (by omega) (by omega) (fun c9 => ?_) (fun h => absurd h (by decide))
  refine lv_iload_n hx hb dX1_move_33 rfl (lv_at hl 3 rfl) ?_
  refine lv_iconst (v := nI 1) hx hb dX1_move_34 (by decide) ?_
  refine n_ine (tgt := 48) hx hb dX1_move_35 (by decide) (by omega) (by omega) (fun c35 => ?_) (fun h => absurd h (by decide))
  refine lv_aload_n hx hb dX1_move_48 rfl (lv_at hl 2 rfl) ?_
  refine lv_iload_n hx hb dX1_move_49 rfl (lv_at hl 0 rfl) ?_
  refine dz_putU hu S hK hP (fun _ h => List.mem_cons_of_mem _ (List.mem_append_left _ (List.mem_append_right _ (h)))) 8 (by decide) (List.mem_cons_of_mem _ (List.mem_append_left _ (List.mem_append_left _ (List.mem_append_left _ (List.mem_append_left _ (List.mem_append_left _ (List.mem_of_getElem? (i := 3) rfl))))))) rfl rfl rfl rfl (j := 73) (fun z9 => by simp [un_F, upd]) (by decide) hS (fun _ h => h) dX1_move_50 (fun H locs hP zH fH hS => ?_)
  refine lv_aload_n hx hb dX1_move_53 rfl (lv_at hl 2 rfl) ?_
  refine lv_iload_n hx hb dX1_move_54 rfl (lv_at hl 3 rfl) ?_
  refine dz_putU (by rw [cn_u (by omega)]; exact hu) S hK hP (fun _ h => List.mem_cons_of_mem _ (List.mem_append_left _ (List.mem_append_right _ (h)))) 3 (by decide) (List.mem_cons_of_mem _ (List.mem_append_left _ (List.mem_append_left _ (List.mem_append_left _ (List.mem_append_left _ (List.mem_append_left _ (List.mem_of_getElem? (i := 4) rfl))))))) rfl rfl rfl rfl (j := 68) (fun z9 => by simp [un_F, upd]) (by decide) hS (fun _ h => h) dX1_move_55 (fun H locs hP zH fH hS => ?_)
  refine lv_iload_n hx hb dX1_move_58 rfl (lv_at hl 0 rfl) ?_
  exact k_iretM hx hb hr hlk dX1_move_59 hS (show dz E d (sdZ z u 3) _ from (dz_z hP (mv_o hpv4 rfl rfl))) (rfl)
def rm_X1_move_4 : Room := { frames := 3, cells := 0, slots := 0, locals := 64 }
set_option maxHeartbeats 4000000 in
set_option maxRecDepth 100000 in
theorem c_X1_move_4 (l : Launch) (E : ke_E) (d : Nat) (z : Nat → Int32) (u : Nat) (hI : iv z) (hu : u < cn z) : Met l yX1_move wsX1_move rm_X1_move_4 (kp E [.ref d, .ref (d + 2*u + 19), .int (nI 4)] (dz E d z)) (qm (some (.int (brg z u 4))) (bl d 59) (dz E d (sdZ z u 4))) 0 0 (bl d 59) := by
  refine k_hd (cc := cX1_move) (maxL := 4) (ret := (some .int)) (by decide) rfl (Nat.le_of_ble_eq_true rfl) ?_
  intro p e s m below meth c ls S hr hlk hnm hK hP hl
  have hx := S.1
  have hb := S.2.1
  have hts := S.2.2.2.2
  have hP : dz E d z s.heap := hP
  have hl : lv_has ls 4 [(0, .ref d), (1, .ref (d + 2*u + 19)), (2, .int (nI 4))] := hl
  have hS : va_S (bl d 59) s.heap s.heap [] := va_S.rf
  have hc20 := iv_c hI
  have hup6 := iv_upl hI hu
  have hpv4 := iv_pvl hI hup6
  refine lv_aload_n hx hb dX1_move_0 rfl (lv_at hl 0 rfl) ?_
  refine lv_aload_n hx hb dX1_move_1 rfl (lv_at hl 1 rfl) ?_
  refine lv_iload_n hx hb dX1_move_2 rfl (lv_at hl 2 rfl) ?_
  refine k_V (As := [.ref (d + 2*u + 19), .int (nI 4)]) (rest := []) S hK (c_X1_moneyOn_4 l E d z u hI hu) gX1_move_X1_moneyOn rfl hd_X1_moneyOn ⟨rfl, rfl⟩ ⟨Nat.le_of_ble_eq_true rfl, Nat.le_of_ble_eq_true rfl⟩ (k_recv hK (dz_d hP) rfl) hP rfl hl.1 rfl (Nat.le_of_ble_eq_true rfl) dX1_move_3 ⟨Nat.le_of_ble_eq_true rfl, Nat.le_of_ble_eq_true rfl⟩ ?_
  refine lv_istore_n (lv' := [(3, .int (brg z u 4)), (0, .ref d), (1, .ref (d + 2*u + 19)), (2, .int (nI 4))]) hx hb dX1_move_6 rfl hl (by decide) rfl (fun ls hl => ?_)
  refine lv_iload_n hx hb dX1_move_7 rfl (lv_at hl 3 rfl) ?_
  refine lv_iconst (v := nI 4) hx hb dX1_move_8 (by decide) ?_
  refine n_ine (tgt := 33) hx hb dX1_move_9 (by decide) (by omega) (by omega) (fun h => absurd h (by decide)) (fun c9 => ?_)
  refine lv_aload_n hx hb dX1_move_12 rfl (lv_at hl 1 rfl) ?_
  refine lv_aload_n hx hb dX1_move_13 rfl (lv_at hl 1 rfl) ?_
  refine lv_aload_n hx hb dX1_move_14 rfl (lv_at hl 2 rfl) ?_
  refine k_V (As := [.ref (d + 2*u + 19)]) (rest := [.ref d]) S hK (c_X1_productUnder l E d z u hI hu) gX1_move_X1_productUnder rfl hd_X1_productUnder ⟨rfl, rfl⟩ ⟨Nat.le_of_ble_eq_true rfl, Nat.le_of_ble_eq_true rfl⟩ (k_recv hK (dz_d hP) rfl) hP rfl hl.1 rfl (Nat.le_of_ble_eq_true rfl) dX1_move_15 ⟨Nat.le_of_ble_eq_true rfl, Nat.le_of_ble_eq_true rfl⟩ ?_
  have hq1 := iv_pvl hI hup6
  refine k_get S hK (dz_p hP (up z u) hup6) rfl (fun _ h => List.mem_cons_of_mem _ (List.mem_append_left _ (List.mem_append_left _ (List.mem_append_left _ (List.mem_append_right _ (h)))))) 1 (by decide) (List.mem_cons_of_mem _ (List.mem_append_left _ (List.mem_append_left _ (List.mem_append_left _ (List.mem_append_left _ (List.mem_append_left _ (List.mem_of_getElem? (i := 0) rfl))))))) rfl (v := .int (nI (pv z (up z u)))) (congrArg (fun x => some (Value.int x)) ((iv_pv hI hup6))) dX1_move_18 ?_
  refine k_V (As := [.int (nI (pv z (up z u)))]) (rest := []) S hK (c_X1_vendorUnder l E d z (pv z (up z u)) (by omega)) gX1_move_X1_vendorUnder rfl hd_X1_vendorUnder ⟨rfl, rfl⟩ ⟨Nat.le_of_ble_eq_true rfl, Nat.le_of_ble_eq_true rfl⟩ (k_recv hK (dz_d hP) rfl) hP rfl hl.1 rfl (Nat.le_of_ble_eq_true rfl) dX1_move_21 ⟨Nat.le_of_ble_eq_true rfl, Nat.le_of_ble_eq_true rfl⟩ ?_
  refine lv_dup hx hb dX1_move_24 rfl ?_
  refine k_get S hK (dz_v hP (pv z (up z u)) hq1) rfl (fun _ h => List.mem_cons_of_mem _ (List.mem_append_left _ (List.mem_append_left _ (List.mem_append_right _ (h))))) 4 (by decide) (List.mem_cons_of_mem _ (List.mem_append_left _ (List.mem_append_left _ (List.mem_append_left _ (List.mem_append_left _ (List.mem_append_left _ (List.mem_of_getElem? (i := 1) rfl))))))) rfl (v := .int (z (8*pv z (up z u) + 33))) rfl dX1_move_25 ?_
  refine lv_iload_n hx hb dX1_move_28 rfl (lv_at hl 0 rfl) ?_
  refine lv_iadd hx hb dX1_move_29 ?_
  refine dz_putV hq1 S hK hP (fun _ h => List.mem_cons_of_mem _ (List.mem_append_left _ (List.mem_append_left _ (List.mem_append_right _ (h))))) 4 (by decide) (List.mem_cons_of_mem _ (List.mem_append_left _ (List.mem_append_left _ (List.mem_append_left _ (List.mem_append_left _ (List.mem_append_left _ (List.mem_of_getElem? (i := 1) rfl))))))) rfl rfl rfl rfl (j := 33) (fun z9 => by simp [ve_F, upd]) (by decide) hS (fun _ h => h) dX1_move_30 (fun H locs hP zH fH hS => ?_)
  refine lv_iload_n hx hb dX1_move_33 rfl (lv_at hl 3 rfl) ?_
  refine lv_iconst (v := nI 1) hx hb dX1_move_34 (by decide) ?_
  refine n_ine (tgt := 48) hx hb dX1_move_35 (by decide) (by omega) (by omega) (fun c35 => ?_) (fun h => absurd h (by decide))
  refine lv_aload_n hx hb dX1_move_48 rfl (lv_at hl 2 rfl) ?_
  refine lv_iload_n hx hb dX1_move_49 rfl (lv_at hl 0 rfl) ?_
  refine dz_putU (by rw [cn_u (by omega)]; exact hu) S hK hP (fun _ h => List.mem_cons_of_mem _ (List.mem_append_left _ (List.mem_append_right _ (h)))) 8 (by decide) (List.mem_cons_of_mem _ (List.mem_append_left _ (List.mem_append_left _ (List.mem_append_left _ (List.mem_append_left _ (List.mem_append_left _ (List.mem_of_getElem? (i := 3) rfl))))))) rfl rfl rfl rfl (j := 73) (fun z9 => by simp [un_F, upd]) (by decide) hS (fun _ h => h) dX1_move_50 (fun H locs hP zH fH hS => ?_)
  refine lv_aload_n hx hb dX1_move_53 rfl (lv_at hl 2 rfl) ?_
  refine lv_iload_n hx hb dX1_move_54 rfl (lv_at hl 3 rfl) ?_
  refine dz_putU (by rw [cn_u (by omega), cn_u (by omega)]; exact hu) S hK hP (fun _ h => List.mem_cons_of_mem _ (List.mem_append_left _ (List.mem_append_right _ (h)))) 3 (by decide) (List.mem_cons_of_mem _ (List.mem_append_left _ (List.mem_append_left _ (List.mem_append_left _ (List.mem_append_left _ (List.mem_append_left _ (List.mem_of_getElem? (i := 4) rfl))))))) rfl rfl rfl rfl (j := 68) (fun z9 => by simp [un_F, upd]) (by decide) hS (fun _ h => h) dX1_move_55 (fun H locs hP zH fH hS => ?_)
  refine lv_iload_n hx hb dX1_move_58 rfl (lv_at hl 0 rfl) ?_
  exact k_iretM hx hb hr hlk dX1_move_59 hS (show dz E d (sdZ z u 4) _ from (dz_z hP (mv_4 hpv4))) (rfl)
def rm_X1_repair : Room := { frames := 3, cells := 0, slots := 0, locals := 59 }
theorem hd_X1_repair : k_hd1 yX1_repair RX1 1 := by decide +kernel
set_option maxHeartbeats 4000000 in
set_option maxRecDepth 100000 in
theorem c_X1_repair (l : Launch) (E : ke_E) (d : Nat) (z : Nat → Int32) (u : Nat) (hI : iv z) (hu : u < cn z) (ht : tst z u) : Met l yX1_repair wsX1_repair rm_X1_repair (kp E [.ref d, .ref (d + 2*u + 19)] (dz E d z)) (qm (some (.int (rpc z u))) (bl d 59) (dz E d (rez z u))) 0 0 (bl d 59) := by
  refine k_hd (cc := cX1_repair) (maxL := 3) (ret := (some .int)) (by decide) rfl (Nat.le_of_ble_eq_true rfl) ?_
  intro p e s m below meth c ls S hr hlk hnm hK hP hl
  have hx := S.1
  have hb := S.2.1
  have hts := S.2.2.2.2
  have hP : dz E d z s.heap := hP
  have hl : lv_has ls 3 [(0, .ref d), (1, .ref (d + 2*u + 19))] := hl
  have hS : va_S (bl d 59) s.heap s.heap [] := va_S.rf
  have hc20 := iv_c hI
  refine lv_aload_n hx hb dX1_repair_0 rfl (lv_at hl 0 rfl) ?_
  refine lv_aload_n hx hb dX1_repair_1 rfl (lv_at hl 1 rfl) ?_
  refine k_V (As := [.ref (d + 2*u + 19)]) (rest := []) S hK (c_X1_repairCostOf l E d z u hu ht) gX1_repair_X1_repairCostOf rfl hd_X1_repairCostOf ⟨rfl, rfl⟩ ⟨Nat.le_of_ble_eq_true rfl, Nat.le_of_ble_eq_true rfl⟩ (k_recv hK (dz_d hP) rfl) hP rfl hl.1 rfl (Nat.le_of_ble_eq_true rfl) dX1_repair_2 ⟨Nat.le_of_ble_eq_true rfl, Nat.le_of_ble_eq_true rfl⟩ ?_
  refine lv_istore_n (lv' := [(2, .int (rpc z u)), (0, .ref d), (1, .ref (d + 2*u + 19))]) hx hb dX1_repair_5 rfl hl (by decide) rfl (fun ls hl => ?_)
  refine lv_aload_n hx hb dX1_repair_6 rfl (lv_at hl 2 rfl) ?_
  refine lv_bipush (v := nI 7) hx hb dX1_repair_7 (by decide) ?_
  refine k_VM (As := [.int (nI 7)]) (rest := []) S hK (c_X4_raiseScores l E d z u hu) gX1_repair_X4_raiseScores rfl hd_X4_raiseScores ⟨rfl, rfl⟩ ⟨Nat.le_of_ble_eq_true rfl, Nat.le_of_ble_eq_true rfl⟩ (k_recv hK (dz_u hP u hu) rfl) hP rfl hl.1 rfl (Nat.le_of_ble_eq_true rfl) dX1_repair_9 ⟨Nat.le_of_ble_eq_true rfl, Nat.le_of_ble_eq_true rfl⟩ hS (fun q h => h) (fun q h => h) (fun H locs hQ zH fH hS => ?_)
  have hP := hQ
  refine lv_aload_n hx hb dX1_repair_12 rfl (lv_at hl 2 rfl) ?_
  refine lv_dup hx hb dX1_repair_13 rfl ?_
  refine k_get S hK (dz_u hP u (by rw [cn_sco]; exact hu)) rfl (fun _ h => List.mem_cons_of_mem _ (List.mem_append_left _ (List.mem_append_right _ (h)))) 9 (by decide) (List.mem_cons_of_mem _ (List.mem_append_left _ (List.mem_append_left _ (List.mem_of_getElem? (i := 0) rfl)))) rfl (v := .int (z (13*u + 74))) (congrArg (fun x => some (Value.int x)) (sco_74)) dX1_repair_14 ?_
  refine lv_iload_n hx hb dX1_repair_17 rfl (lv_at hl 0 rfl) ?_
  refine lv_iadd hx hb dX1_repair_18 ?_
  refine dz_putU (by rw [cn_sco]; exact hu) S hK hP (fun _ h => List.mem_cons_of_mem _ (List.mem_append_left _ (List.mem_append_right _ (h)))) 9 (by decide) (List.mem_cons_of_mem _ (List.mem_append_left _ (List.mem_append_left _ (List.mem_of_getElem? (i := 0) rfl)))) rfl rfl rfl rfl (j := 74) (fun z9 => by simp [un_F, upd]) (by decide) hS (fun _ h => h) dX1_repair_19 (fun H locs hP zH fH hS => ?_)
  refine lv_aload_n hx hb dX1_repair_22 rfl (lv_at hl 2 rfl) ?_
  refine lv_iconst (v := nI 0) hx hb dX1_repair_23 (by decide) ?_
  refine dz_putU (by rw [cn_u (by omega)]; exact (by rw [cn_sco]; exact hu)) S hK hP (fun _ h => List.mem_cons_of_mem _ (List.mem_append_left _ (List.mem_append_right _ (h)))) 3 (by decide) (List.mem_cons_of_mem _ (List.mem_append_left _ (List.mem_append_left _ (List.mem_of_getElem? (i := 1) rfl)))) rfl rfl rfl rfl (j := 68) (fun z9 => by simp [un_F, upd]) (by decide) hS (fun _ h => h) dX1_repair_24 (fun H locs hP zH fH hS => ?_)
  refine lv_iload_n hx hb dX1_repair_27 rfl (lv_at hl 0 rfl) ?_
  exact k_iretM hx hb hr hlk dX1_repair_28 hS (show dz E d (rez z u) _ from (dz_z hP ag_4)) (rfl)
def rm_X1_nextDay : Room := { frames := 5, cells := 0, slots := 0, locals := 112 }
theorem hd_X1_nextDay : k_hd1 yX1_nextDay RX1 0 := by decide +kernel
set_option maxHeartbeats 4000000 in
set_option maxRecDepth 100000 in
theorem c_X1_nextDay (l : Launch) (E : ke_E) (d : Nat) (z : Nat → Int32) (hI : iv z) : Met l yX1_nextDay wsX1_nextDay rm_X1_nextDay (kp E [.ref d] (dz E d z)) (qm (some (.int (dyZ z).2)) (bl d 59) (dz E d (dyZ z).1)) 0 0 (bl d 59) := by
  refine k_hd (cc := cX1_nextDay) (maxL := 4) (ret := (some .int)) (by decide) rfl (Nat.le_of_ble_eq_true rfl) ?_
  intro p e s m below meth c ls S hr hlk hnm hK hP hl
  have hx := S.1
  have hb := S.2.1
  have hts := S.2.2.2.2
  have hP : dz E d z s.heap := hP
  have hl : lv_has ls 4 [(0, .ref d)] := hl
  have hS : va_S (bl d 59) s.heap s.heap [] := va_S.rf
  have hc20 := iv_c hI
  have hpd := iv_pd1 hI
  have J14 : ∀ (n_ : Nat), ∀ (k : Nat), k ≤ pd z → pd z < k + n_ → ∀ (H : Heap) (locs : List Loc), dz E d (dyI (dy0 z) k).1 H → va_S (bl d 59) s.heap H locs → ∀ (ls : Array Slot), lv_has ls 4 [(0, .ref d), (1, .int (dyI (dy0 z) k).2), (2, .int (nI k))] → W p l e (headSpec wsX1_nextDay rm_X1_nextDay).room s m ([.ref d] : List Value).toArray below meth c H locs 0 0 (MQ below (qm (some (.int (dyZ z).2)) (bl d 59) (dz E d (dyZ z).1)) ([.ref d] : List Value).toArray s 0 0 (bl d 59)) (F0 m 14 ls []) := by
    intro n_
    induction n_ with
    | zero =>
      intro k hk hn_ _ _ _ _ _ _
      exact absurd hn_ (by omega)
    | succ n_ ih =>
      intro k hk hn_ H locs hW0 hS ls hl
      have hdy := dyI_iv (iv_dy0 hI) k
      have hc9 := iv_c hdy.1
      refine lv_iload_n hx hb dX1_nextDay_14 rfl (lv_at hl 2 rfl) ?_
      refine lv_aload_n hx hb dX1_nextDay_15 rfl (lv_at hl 0 rfl) ?_
      refine k_get S hK (dz_d hW0) rfl (fun _ h => List.mem_cons_of_mem _ (List.mem_append_left _ (List.mem_append_left _ (List.mem_append_right _ (h))))) 3 (by decide) (List.mem_cons_of_mem _ (List.mem_append_left _ (List.mem_append_left _ (List.mem_append_left _ (List.mem_append_left _ (List.mem_of_getElem? (i := 1) rfl)))))) rfl (v := .ref (d + 4)) rfl dX1_nextDay_16 ?_
      refine lv_iconst (v := nI 3) hx hb dX1_nextDay_19 (by decide) ?_
      refine k_iald hx hb hK (dz_st hW0) (by omega) (by decide) (v := nI (pd z)) ((hdy.2.2 10 (by omega) (by omega)).trans (((upd_n (by omega)).trans (iv_pd hI)))) dX1_nextDay_20 ?_
      refine n_ige (tgt := 69) hx hb dX1_nextDay_21 (by decide) (by omega) (by omega) (fun c21 => ?_) (fun c21 => ?_)
      · refine lv_iload_n hx hb dX1_nextDay_69 rfl (lv_at hl 1 rfl) ?_
        exact k_iretM hx hb hr hlk dX1_nextDay_70 hS (show dz E d (dyZ z).1 _ from (by unfold dyZ; rw [show pd z = k by omega]; exact hW0)) (by unfold dyZ; rw [show pd z = k by omega])
      · refine lv_aload_n hx hb dX1_nextDay_24 rfl (lv_at hl 0 rfl) ?_
        refine lv_aload_n hx hb dX1_nextDay_25 rfl (lv_at hl 0 rfl) ?_
        refine lv_ldc (v := nI 1000000000) hx hb S.2.2.2.1 (hts _ (List.mem_cons_of_mem _ (List.mem_append_left _ (List.mem_append_left _ (List.mem_append_left _ (List.mem_append_left _ (List.mem_of_getElem? (i := 2) rfl))))))) dX1_nextDay_26 ?_
        refine lv_iconst (v := nI 1) hx hb dX1_nextDay_28 (by decide) ?_
        refine k_V (As := [.int (nI 1000000000), .int (nI 1)]) (rest := [.ref d]) S hK (c_X1_nextRank_1 l E d (dyI (dy0 z) k).1 1000000000 hdy.1 (by omega)) gX1_nextDay_X1_nextRank rfl hd_X1_nextRank ⟨rfl, rfl⟩ ⟨Nat.le_of_ble_eq_true rfl, Nat.le_of_ble_eq_true rfl⟩ (k_recv hK (dz_d hW0) rfl) hW0 rfl hl.1 rfl (Nat.le_of_ble_eq_true rfl) dX1_nextDay_29 ⟨Nat.le_of_ble_eq_true rfl, Nat.le_of_ble_eq_true rfl⟩ ?_
        rcases Option.eq_none_or_eq_some (nrk (rkW (dyI (dy0 z) k).1 (nI 0)) 1000000000 (cn (dyI (dy0 z) k).1)) with hb9 | ⟨r9, hb9⟩
        · refine k_top (y := (-1)) (by rw [hb9]; rfl) ?_
          have hb8 := (nw_max hdy.1).trans (congrArg oN hb9)
          refine k_V (As := [.int (-1)]) (rest := []) S hK (c_X1_numberOfRank_n l E d (dyI (dy0 z) k).1) gX1_nextDay_X1_numberOfRank rfl hd_X1_numberOfRank ⟨rfl, rfl⟩ ⟨Nat.le_of_ble_eq_true rfl, Nat.le_of_ble_eq_true rfl⟩ (k_recv hK (dz_d hW0) rfl) hW0 rfl hl.1 rfl (Nat.le_of_ble_eq_true rfl) dX1_nextDay_32 ⟨Nat.le_of_ble_eq_true rfl, Nat.le_of_ble_eq_true rfl⟩ ?_
          refine lv_istore_n (lv' := [(3, .int (-1)), (0, .ref d), (1, .int (dyI (dy0 z) k).2), (2, .int (nI k))]) hx hb dX1_nextDay_35 rfl hl (by decide) rfl (fun ls hl => ?_)
          refine lv_iload_n hx hb dX1_nextDay_36 rfl (lv_at hl 0 rfl) ?_
          refine lv_aload_n hx hb dX1_nextDay_37 rfl (lv_at hl 1 rfl) ?_
          refine k_get S hK (dz_d hW0) rfl (fun _ h => List.mem_cons_of_mem _ (List.mem_append_left _ (List.mem_append_left _ (List.mem_append_right _ (h))))) 2 (by decide) (List.mem_cons_of_mem _ (List.mem_append_left _ (List.mem_append_left _ (List.mem_append_left _ (List.mem_append_left _ (List.mem_of_getElem? (i := 3) rfl)))))) rfl (v := .ref (d + 3)) rfl dX1_nextDay_38 ?_
          refine k_alen hx hb hK (t := 3) rfl (dz_ua hW0) dX1_nextDay_41 ?_
          refine k_top (y := nI 20) rfl ?_
          refine k_SN (q := (RX1, 60, yX6_isIndex, RX6)) (As := [.int (-1), .int (nI 20)]) (rest := []) S hK (List.mem_of_getElem? (i := 6) rfl) (c_X6_isIndex l E (-1) 20 (by omega)) ggX1_nextDay_X6_isIndex rfl hd_X6_isIndex (List.mem_cons_of_mem _ (List.mem_append_left _ (List.mem_append_left _ (List.mem_append_left _ (List.mem_append_right _ (List.mem_append_right _ (List.mem_append_right _ (List.mem_of_getElem? (i := 4) rfl)))))))) (List.mem_cons_of_mem _ (List.mem_append_left _ (List.mem_append_left _ (List.mem_append_left _ (List.mem_append_right _ (List.mem_append_left _ (List.mem_of_getElem? (i := 21) rfl))))))) ⟨rfl, rfl⟩ ⟨Nat.le_of_ble_eq_true rfl, Nat.le_of_ble_eq_true rfl⟩ trivial rfl hl.1 rfl (Nat.le_of_ble_eq_true rfl) dX1_nextDay_42 ⟨Nat.le_of_ble_eq_true rfl, Nat.le_of_ble_eq_true rfl⟩ ?_
          refine b_ne (tgt := 50) hx hb dX1_nextDay_45 (by decide) (fun h => absurd h (inR_no (by decide) (Or.inl (by decide)))) (fun c45 => ?_)
          refine lv_iload_n hx hb dX1_nextDay_48 rfl (lv_at hl 2 rfl) ?_
          exact k_iretM hx hb hr hlk dX1_nextDay_49 hS (show dz E d (dyZ z).1 _ from (by unfold dyZ; rw [show pd z = k + (pd z - k) by omega, dyI_stop hb8]; exact hW0)) (by unfold dyZ; rw [show pd z = k + (pd z - k) by omega, dyI_stop hb8])
        · refine k_top (y := nI r9) (by rw [hb9]; rfl) ?_
          have hb8 := (nw_max hdy.1).trans (congrArg oN hb9)
          have hrl := nrk_lt (rkW_ok hdy.1) hb9
          have htt := wk_tst hdy.1 hrl.1 (rkW_wk hrl.2.1)
          refine k_V (As := [.int (nI r9)]) (rest := []) S hK (c_X1_numberOfRank l E d (dyI (dy0 z) k).1 r9 hrl.2.2.2) gX1_nextDay_X1_numberOfRank rfl hd_X1_numberOfRank ⟨rfl, rfl⟩ ⟨Nat.le_of_ble_eq_true rfl, Nat.le_of_ble_eq_true rfl⟩ (k_recv hK (dz_d hW0) rfl) hW0 rfl hl.1 rfl (Nat.le_of_ble_eq_true rfl) dX1_nextDay_32 ⟨Nat.le_of_ble_eq_true rfl, Nat.le_of_ble_eq_true rfl⟩ ?_
          refine lv_istore_n (lv' := [(3, .int (nI (nbr r9))), (0, .ref d), (1, .int (dyI (dy0 z) k).2), (2, .int (nI k))]) hx hb dX1_nextDay_35 rfl hl (by decide) rfl (fun ls hl => ?_)
          refine lv_iload_n hx hb dX1_nextDay_36 rfl (lv_at hl 0 rfl) ?_
          refine lv_aload_n hx hb dX1_nextDay_37 rfl (lv_at hl 1 rfl) ?_
          refine k_get S hK (dz_d hW0) rfl (fun _ h => List.mem_cons_of_mem _ (List.mem_append_left _ (List.mem_append_left _ (List.mem_append_right _ (h))))) 2 (by decide) (List.mem_cons_of_mem _ (List.mem_append_left _ (List.mem_append_left _ (List.mem_append_left _ (List.mem_append_left _ (List.mem_of_getElem? (i := 3) rfl)))))) rfl (v := .ref (d + 3)) rfl dX1_nextDay_38 ?_
          refine k_alen hx hb hK (t := 3) rfl (dz_ua hW0) dX1_nextDay_41 ?_
          refine k_top (y := nI 20) rfl ?_
          refine k_SN (q := (RX1, 60, yX6_isIndex, RX6)) (As := [.int (nI (nbr r9)), .int (nI 20)]) (rest := []) S hK (List.mem_of_getElem? (i := 6) rfl) (c_X6_isIndex_n l E (nbr r9) 20 (by omega) (by omega)) ggX1_nextDay_X6_isIndex rfl hd_X6_isIndex (List.mem_cons_of_mem _ (List.mem_append_left _ (List.mem_append_left _ (List.mem_append_left _ (List.mem_append_right _ (List.mem_append_right _ (List.mem_append_right _ (List.mem_of_getElem? (i := 4) rfl)))))))) (List.mem_cons_of_mem _ (List.mem_append_left _ (List.mem_append_left _ (List.mem_append_left _ (List.mem_append_right _ (List.mem_append_left _ (List.mem_of_getElem? (i := 21) rfl))))))) ⟨rfl, rfl⟩ ⟨Nat.le_of_ble_eq_true rfl, Nat.le_of_ble_eq_true rfl⟩ trivial rfl hl.1 rfl (Nat.le_of_ble_eq_true rfl) dX1_nextDay_42 ⟨Nat.le_of_ble_eq_true rfl, Nat.le_of_ble_eq_true rfl⟩ ?_
          refine b_ne (tgt := 50) hx hb dX1_nextDay_45 (by decide) (fun c45 => ?_) (fun h => absurd (by omega) h)
          refine lv_iload_n hx hb dX1_nextDay_50 rfl (lv_at hl 2 rfl) ?_
          refine lv_aload_n hx hb dX1_nextDay_51 rfl (lv_at hl 1 rfl) ?_
          refine lv_aload_n hx hb dX1_nextDay_52 rfl (lv_at hl 1 rfl) ?_
          refine k_get S hK (dz_d hW0) rfl (fun _ h => List.mem_cons_of_mem _ (List.mem_append_left _ (List.mem_append_left _ (List.mem_append_right _ (h))))) 2 (by decide) (List.mem_cons_of_mem _ (List.mem_append_left _ (List.mem_append_left _ (List.mem_append_left _ (List.mem_append_left _ (List.mem_of_getElem? (i := 3) rfl)))))) rfl (v := .ref (d + 3)) rfl dX1_nextDay_53 ?_
          refine lv_iload_n hx hb dX1_nextDay_56 rfl (lv_at hl 0 rfl) ?_
          refine k_aald hx hb hK (t := 3) rfl (dz_ua hW0) (by omega) (by decide) (v := d + 2*(nbr r9) + 19) rfl dX1_nextDay_57 ?_
          refine k_VM (As := [.ref (d + 2*(nbr r9) + 19)]) (rest := [.int (dyI (dy0 z) k).2]) S hK (c_X1_repair l E d (dyI (dy0 z) k).1 (nbr r9) hdy.1 (by omega) htt) gX1_nextDay_X1_repair rfl hd_X1_repair ⟨rfl, rfl⟩ ⟨Nat.le_of_ble_eq_true rfl, Nat.le_of_ble_eq_true rfl⟩ (k_recv hK (dz_d hW0) rfl) hW0 rfl hl.1 rfl (Nat.le_of_ble_eq_true rfl) dX1_nextDay_58 ⟨Nat.le_of_ble_eq_true rfl, Nat.le_of_ble_eq_true rfl⟩ hS (fun q h => h) (fun q h => h) (fun H locs hQ zH fH hS => ?_)
          have hP := hQ
          refine lv_iadd hx hb dX1_nextDay_61 ?_
          refine lv_istore_n (lv' := [(1, .int ((dyI (dy0 z) k).2 + (rpc (dyI (dy0 z) k).1 (nbr r9)))), (3, .int (nI (nbr r9))), (0, .ref d), (2, .int (nI k))]) hx hb dX1_nextDay_62 rfl hl (by decide) rfl (fun ls hl => ?_)
          refine lv_iinc (v := nI (k + 1)) (lv' := [(2, .int (nI (k + 1))), (1, .int ((dyI (dy0 z) k).2 + (rpc (dyI (dy0 z) k).1 (nbr r9)))), (3, .int (nI (nbr r9))), (0, .ref d)]) hx hb dX1_nextDay_63 hl (k := 3) rfl (inc_1 _) (by decide) rfl (fun ls hl => ?_)
          refine lv_goto (tgt := 14) hx hb dX1_nextDay_66 (by decide) ?_
          have hl : lv_has ls 4 [(0, .ref d), (1, .int (dyI (dy0 z) (k + 1)).2), (2, .int (nI (k + 1)))] := by
            have h9 := lv_sub (l' := [(0, .ref d), (1, .int ((dyI (dy0 z) k).2 + (rpc (dyI (dy0 z) k).1 (nbr r9)))), (2, .int (nI (k + 1)))]) hl [3, 1, 0] rfl
            rw [show (.int (dyI (dy0 z) (k + 1)).2 : Value) = .int ((dyI (dy0 z) k).2 + (rpc (dyI (dy0 z) k).1 (nbr r9))) from congrArg Value.int (congrArg Prod.snd (dyI_s hb8))]
            exact h9
          exact ih (k + 1) (by omega) (by omega) _ _ (show dz E d (dyI (dy0 z) (k + 1)).1 _ from (by rw [dyI_s hb8]; exact hP)) hS _ hl
  refine lv_aload_n hx hb dX1_nextDay_0 rfl (lv_at hl 0 rfl) ?_
  refine lv_dup hx hb dX1_nextDay_1 rfl ?_
  refine k_get S hK (dz_d hP) rfl (fun _ h => List.mem_cons_of_mem _ (List.mem_append_left _ (List.mem_append_left _ (List.mem_append_right _ (h))))) 5 (by decide) (List.mem_cons_of_mem _ (List.mem_append_left _ (List.mem_append_left _ (List.mem_append_left _ (List.mem_append_left _ (List.mem_of_getElem? (i := 0) rfl)))))) rfl (v := .int (z 1)) rfl dX1_nextDay_2 ?_
  refine lv_iconst (v := nI 1) hx hb dX1_nextDay_5 (by decide) ?_
  refine lv_iadd hx hb dX1_nextDay_6 ?_
  refine dz_putD S hK hP (fun _ h => List.mem_cons_of_mem _ (List.mem_append_left _ (List.mem_append_left _ (List.mem_append_right _ (h))))) 5 (by decide) (List.mem_cons_of_mem _ (List.mem_append_left _ (List.mem_append_left _ (List.mem_append_left _ (List.mem_append_left _ (List.mem_of_getElem? (i := 0) rfl)))))) rfl rfl rfl rfl (j := 1) (fun z9 => by simp [dk_F, upd]) (by decide) hS (fun _ h => h) dX1_nextDay_7 (fun H locs hP zH fH hS => ?_)
  refine lv_iconst (v := nI 0) hx hb dX1_nextDay_10 (by decide) ?_
  refine lv_istore_n (lv' := [(1, .int (nI 0)), (0, .ref d)]) hx hb dX1_nextDay_11 rfl hl (by decide) rfl (fun ls hl => ?_)
  refine lv_iconst (v := nI 0) hx hb dX1_nextDay_12 (by decide) ?_
  refine lv_istore_n (lv' := [(2, .int (nI 0)), (1, .int (nI 0)), (0, .ref d)]) hx hb dX1_nextDay_13 rfl hl (by decide) rfl (fun ls hl => ?_)
  have hl : lv_has ls 4 [(0, .ref d), (1, .int (dyI (dy0 z) 0).2), (2, .int (nI 0))] := by
    have h9 := lv_sub (l' := [(0, .ref d), (1, .int (nI 0)), (2, .int (nI 0))]) hl [2, 1, 0] rfl
    rw [show (.int (dyI (dy0 z) 0).2 : Value) = .int (nI 0) from congrArg Value.int rfl]
    exact h9
  exact J14 (pd z + 1) 0 (by omega) (by omega) _ _ (show dz E d (dyI (dy0 z) 0).1 _ from hP) hS _ hl
def rm_X1_close : Room := { frames := 4, cells := 0, slots := 0, locals := 89 }
theorem hd_X1_close : k_hd1 yX1_close RX1 0 := by decide +kernel
set_option maxHeartbeats 4000000 in
set_option maxRecDepth 100000 in
theorem c_X1_close (l : Launch) (E : ke_E) (d : Nat) (z : Nat → Int32) (hI : iv z) : Met l yX1_close wsX1_close rm_X1_close (kp E [.ref d] (dz E d z)) (qm (some (.int (cloZ z).2)) (bl d 59) (dz E d (cloZ z).1)) 0 0 (bl d 59) := by
  refine k_hd (cc := cX1_close) (maxL := 5) (ret := (some .int)) (by decide) rfl (Nat.le_of_ble_eq_true rfl) ?_
  intro p e s m below meth c ls S hr hlk hnm hK hP hl
  have hx := S.1
  have hb := S.2.1
  have hts := S.2.2.2.2
  have hP : dz E d z s.heap := hP
  have hl : lv_has ls 5 [(0, .ref d)] := hl
  have hS : va_S (bl d 59) s.heap s.heap [] := va_S.rf
  have hc20 := iv_c hI
  have J44 : ∀ (n_ : Nat), ∀ (z1 : Nat → Int32), ∀ (b : Nat), ∀ (a : Int32), ∀ (f1 : Nat), ∀ (i : Nat), iv z1 → cc f1 z1 b a = cloZ z → f1 + i = cn z → cn z1 = cn z → b ≤ 2147483647 → f1 < n_ → ∀ (H : Heap) (locs : List Loc), dz E d z1 H → va_S (bl d 59) s.heap H locs → ∀ (ls : Array Slot), lv_has ls 5 [(0, .ref d), (1, .int a), (2, .int (nI b)), (3, .int (nI i))] → W p l e (headSpec wsX1_close rm_X1_close).room s m ([.ref d] : List Value).toArray below meth c H locs 0 0 (MQ below (qm (some (.int (cloZ z).2)) (bl d 59) (dz E d (cloZ z).1)) ([.ref d] : List Value).toArray s 0 0 (bl d 59)) (F0 m 44 ls []) := by
    intro n_
    induction n_ with
    | zero =>
      intro z1 b a f1 i hI1 hR hf hcz hb7 hn_ _ _ _ _ _ _
      exact absurd hn_ (by omega)
    | succ n_ ih =>
      intro z1 b a f1 i hI1 hR hf hcz hb7 hn_ H locs hW0 hS ls hl
      have hc9 := iv_c hI1
      refine lv_iload_n hx hb dX1_close_44 rfl (lv_at hl 3 rfl) ?_
      refine lv_aload_n hx hb dX1_close_45 rfl (lv_at hl 0 rfl) ?_
      refine k_get S hK (dz_d hW0) rfl (fun _ h => List.mem_cons_of_mem _ (List.mem_append_left _ (List.mem_append_left _ (List.mem_append_left _ (List.mem_append_right _ (h)))))) 4 (by decide) (List.mem_cons_of_mem _ (List.mem_append_left _ (List.mem_append_left _ (List.mem_append_left _ (List.mem_append_left _ (List.mem_append_left _ (List.mem_of_getElem? (i := 4) rfl))))))) rfl (v := .int (nI (cn z))) (congrArg (fun x => some (Value.int x)) (((iv_n hI1).trans (congrArg nI hcz)))) dX1_close_46 ?_
      refine n_ige (tgt := 138) hx hb dX1_close_49 (by decide) (by omega) (by omega) (fun c49 => ?_) (fun c49 => ?_)
      · refine lv_iload_n hx hb dX1_close_138 rfl (lv_at hl 1 rfl) ?_
        exact k_iretM hx hb hr hlk dX1_close_139 hS (show dz E d (cloZ z).1 _ from (by rw [← hR, show f1 = 0 by omega]; exact hW0)) (by rw [← hR, show f1 = 0 by omega]; rfl)
      · refine lv_aload_n hx hb dX1_close_52 rfl (lv_at hl 0 rfl) ?_
        refine lv_iload_n hx hb dX1_close_53 rfl (lv_at hl 2 rfl) ?_
        refine lv_iconst (v := nI 2) hx hb dX1_close_54 (by decide) ?_
        refine k_V (As := [.int (nI b), .int (nI 2)]) (rest := []) S hK (c_X1_nextRank_2 l E d z1 b hI1 hb7) gX1_close_X1_nextRank rfl hd_X1_nextRank ⟨rfl, rfl⟩ ⟨Nat.le_of_ble_eq_true rfl, Nat.le_of_ble_eq_true rfl⟩ (k_recv hK (dz_d hW0) rfl) hW0 rfl hl.1 rfl (Nat.le_of_ble_eq_true rfl) dX1_close_55 ⟨Nat.le_of_ble_eq_true rfl, Nat.le_of_ble_eq_true rfl⟩ ?_
        rcases Option.eq_none_or_eq_some (nrk (rkC z1) b (cn z1)) with hb9 | ⟨r9, hb9⟩
        · refine k_top (y := (-1)) (by rw [hb9]; rfl) ?_
          refine lv_istore_n (lv' := [(2, .int (-1)), (0, .ref d), (1, .int a), (3, .int (nI i))]) hx hb dX1_close_58 rfl hl (by decide) rfl (fun ls hl => ?_)
          refine lv_aload_n hx hb dX1_close_59 rfl (lv_at hl 1 rfl) ?_
          refine lv_iload_n hx hb dX1_close_60 rfl (lv_at hl 0 rfl) ?_
          refine k_V (As := [.int (-1)]) (rest := []) S hK (c_X1_numberOfRank_n l E d z1) gX1_close_X1_numberOfRank rfl hd_X1_numberOfRank ⟨rfl, rfl⟩ ⟨Nat.le_of_ble_eq_true rfl, Nat.le_of_ble_eq_true rfl⟩ (k_recv hK (dz_d hW0) rfl) hW0 rfl hl.1 rfl (Nat.le_of_ble_eq_true rfl) dX1_close_61 ⟨Nat.le_of_ble_eq_true rfl, Nat.le_of_ble_eq_true rfl⟩ ?_
          refine lv_istore (lv' := [(4, .int (-1)), (2, .int (-1)), (0, .ref d), (1, .int a), (3, .int (nI i))]) hx hb dX1_close_64 hl (by decide) rfl (fun ls hl => ?_)
          refine lv_iload hx hb dX1_close_66 (lv_at hl 0 rfl) ?_
          refine lv_aload_n hx hb dX1_close_68 rfl (lv_at hl 2 rfl) ?_
          refine k_get S hK (dz_d hW0) rfl (fun _ h => List.mem_cons_of_mem _ (List.mem_append_left _ (List.mem_append_left _ (List.mem_append_left _ (List.mem_append_right _ (h)))))) 2 (by decide) (List.mem_cons_of_mem _ (List.mem_append_left _ (List.mem_append_left _ (List.mem_append_left _ (List.mem_append_left _ (List.mem_append_left _ (List.mem_of_getElem? (i := 5) rfl))))))) rfl (v := .ref (d + 3)) rfl dX1_close_69 ?_
          refine k_alen hx hb hK (t := 3) rfl (dz_ua hW0) dX1_close_72 ?_
          refine k_top (y := nI 20) rfl ?_
          refine k_SN (q := (RX1, 60, yX6_isIndex, RX6)) (As := [.int (-1), .int (nI 20)]) (rest := []) S hK (List.mem_of_getElem? (i := 6) rfl) (c_X6_isIndex l E (-1) 20 (by omega)) ggX1_close_X6_isIndex rfl hd_X6_isIndex (List.mem_cons_of_mem _ (List.mem_append_left _ (List.mem_append_left _ (List.mem_append_left _ (List.mem_append_left _ (List.mem_append_right _ (List.mem_append_right _ (List.mem_append_right _ (List.mem_append_left _ (List.mem_of_getElem? (i := 7) rfl)))))))))) (List.mem_cons_of_mem _ (List.mem_append_left _ (List.mem_append_left _ (List.mem_append_left _ (List.mem_append_left _ (List.mem_append_right _ (List.mem_append_left _ (List.mem_of_getElem? (i := 23) rfl)))))))) ⟨rfl, rfl⟩ ⟨Nat.le_of_ble_eq_true rfl, Nat.le_of_ble_eq_true rfl⟩ trivial rfl hl.1 rfl (Nat.le_of_ble_eq_true rfl) dX1_close_73 ⟨Nat.le_of_ble_eq_true rfl, Nat.le_of_ble_eq_true rfl⟩ ?_
          refine b_ne (tgt := 81) hx hb dX1_close_76 (by decide) (fun h => absurd h (inR_no (by decide) (Or.inl (by decide)))) (fun c76 => ?_)
          refine lv_iload_n hx hb dX1_close_79 rfl (lv_at hl 3 rfl) ?_
          exact k_iretM hx hb hr hlk dX1_close_80 hS (show dz E d (cloZ z).1 _ from (by rw [← hR, cc_n hb9]; exact hW0)) (by rw [← hR, cc_n hb9])
        · refine k_top (y := nI r9) (by rw [hb9]; rfl) ?_
          have hrl := nrk_lt (rkC_ok hI1) hb9
          have hwt := rkC_wt hrl.2.1
          have hpi := payZ_iv hI1 hrl.1
          have hub4 := iv_ubl hI1 hrl.1
          obtain ⟨f, rfl⟩ : ∃ f, f1 = f + 1 := ⟨f1 - 1, by omega⟩
          refine lv_istore_n (lv' := [(2, .int (nI r9)), (0, .ref d), (1, .int a), (3, .int (nI i))]) hx hb dX1_close_58 rfl hl (by decide) rfl (fun ls hl => ?_)
          refine lv_aload_n hx hb dX1_close_59 rfl (lv_at hl 1 rfl) ?_
          refine lv_iload_n hx hb dX1_close_60 rfl (lv_at hl 0 rfl) ?_
          refine k_V (As := [.int (nI r9)]) (rest := []) S hK (c_X1_numberOfRank l E d z1 r9 hrl.2.2.2) gX1_close_X1_numberOfRank rfl hd_X1_numberOfRank ⟨rfl, rfl⟩ ⟨Nat.le_of_ble_eq_true rfl, Nat.le_of_ble_eq_true rfl⟩ (k_recv hK (dz_d hW0) rfl) hW0 rfl hl.1 rfl (Nat.le_of_ble_eq_true rfl) dX1_close_61 ⟨Nat.le_of_ble_eq_true rfl, Nat.le_of_ble_eq_true rfl⟩ ?_
          refine lv_istore (lv' := [(4, .int (nI (nbr r9))), (2, .int (nI r9)), (0, .ref d), (1, .int a), (3, .int (nI i))]) hx hb dX1_close_64 hl (by decide) rfl (fun ls hl => ?_)
          refine lv_iload hx hb dX1_close_66 (lv_at hl 0 rfl) ?_
          refine lv_aload_n hx hb dX1_close_68 rfl (lv_at hl 2 rfl) ?_
          refine k_get S hK (dz_d hW0) rfl (fun _ h => List.mem_cons_of_mem _ (List.mem_append_left _ (List.mem_append_left _ (List.mem_append_left _ (List.mem_append_right _ (h)))))) 2 (by decide) (List.mem_cons_of_mem _ (List.mem_append_left _ (List.mem_append_left _ (List.mem_append_left _ (List.mem_append_left _ (List.mem_append_left _ (List.mem_of_getElem? (i := 5) rfl))))))) rfl (v := .ref (d + 3)) rfl dX1_close_69 ?_
          refine k_alen hx hb hK (t := 3) rfl (dz_ua hW0) dX1_close_72 ?_
          refine k_top (y := nI 20) rfl ?_
          refine k_SN (q := (RX1, 60, yX6_isIndex, RX6)) (As := [.int (nI (nbr r9)), .int (nI 20)]) (rest := []) S hK (List.mem_of_getElem? (i := 6) rfl) (c_X6_isIndex_n l E (nbr r9) 20 (by omega) (by omega)) ggX1_close_X6_isIndex rfl hd_X6_isIndex (List.mem_cons_of_mem _ (List.mem_append_left _ (List.mem_append_left _ (List.mem_append_left _ (List.mem_append_left _ (List.mem_append_right _ (List.mem_append_right _ (List.mem_append_right _ (List.mem_append_left _ (List.mem_of_getElem? (i := 7) rfl)))))))))) (List.mem_cons_of_mem _ (List.mem_append_left _ (List.mem_append_left _ (List.mem_append_left _ (List.mem_append_left _ (List.mem_append_right _ (List.mem_append_left _ (List.mem_of_getElem? (i := 23) rfl)))))))) ⟨rfl, rfl⟩ ⟨Nat.le_of_ble_eq_true rfl, Nat.le_of_ble_eq_true rfl⟩ trivial rfl hl.1 rfl (Nat.le_of_ble_eq_true rfl) dX1_close_73 ⟨Nat.le_of_ble_eq_true rfl, Nat.le_of_ble_eq_true rfl⟩ ?_
          refine b_ne (tgt := 81) hx hb dX1_close_76 (by decide) (fun c76 => ?_) (fun h => absurd (by omega) h)
          refine lv_aload_n hx hb dX1_close_81 rfl (lv_at hl 2 rfl) ?_
          refine k_get S hK (dz_d hW0) rfl (fun _ h => List.mem_cons_of_mem _ (List.mem_append_left _ (List.mem_append_left _ (List.mem_append_left _ (List.mem_append_right _ (h)))))) 2 (by decide) (List.mem_cons_of_mem _ (List.mem_append_left _ (List.mem_append_left _ (List.mem_append_left _ (List.mem_append_left _ (List.mem_append_left _ (List.mem_of_getElem? (i := 5) rfl))))))) rfl (v := .ref (d + 3)) rfl dX1_close_82 ?_
          refine lv_iload hx hb dX1_close_85 (lv_at hl 0 rfl) ?_
          refine k_aald hx hb hK (t := 3) rfl (dz_ua hW0) (by omega) (by decide) (v := d + 2*(nbr r9) + 19) rfl dX1_close_87 ?_
          refine lv_aload_n hx hb dX1_close_88 rfl (lv_at hl 2 rfl) ?_
          refine lv_aload_n hx hb dX1_close_89 rfl (lv_at hl 2 rfl) ?_
          refine k_get S hK (dz_d hW0) rfl (fun _ h => List.mem_cons_of_mem _ (List.mem_append_left _ (List.mem_append_left _ (List.mem_append_left _ (List.mem_append_right _ (h)))))) 2 (by decide) (List.mem_cons_of_mem _ (List.mem_append_left _ (List.mem_append_left _ (List.mem_append_left _ (List.mem_append_left _ (List.mem_append_left _ (List.mem_of_getElem? (i := 5) rfl))))))) rfl (v := .ref (d + 3)) rfl dX1_close_90 ?_
          refine lv_iload hx hb dX1_close_93 (lv_at hl 0 rfl) ?_
          refine k_aald hx hb hK (t := 3) rfl (dz_ua hW0) (by omega) (by decide) (v := d + 2*(nbr r9) + 19) rfl dX1_close_95 ?_
          refine k_VM (As := [.ref (d + 2*(nbr r9) + 19)]) (rest := [.ref (d + 2*(nbr r9) + 19)]) S hK (c_X1_payIfPossible l E d z1 (nbr r9) hI1 (by omega)) gX1_close_X1_payIfPossible rfl hd_X1_payIfPossible ⟨rfl, rfl⟩ ⟨Nat.le_of_ble_eq_true rfl, Nat.le_of_ble_eq_true rfl⟩ (k_recv hK (dz_d hW0) rfl) hW0 rfl hl.1 rfl (Nat.le_of_ble_eq_true rfl) dX1_close_96 ⟨Nat.le_of_ble_eq_true rfl, Nat.le_of_ble_eq_true rfl⟩ hS (fun q h => h) (fun q h => h) (fun H locs hQ zH fH hS => ?_)
          have hP := hQ
          refine dz_putU (by rw [cn_pvZ]; exact hrl.1) S hK hP (fun _ h => List.mem_cons_of_mem _ (List.mem_append_left _ (List.mem_append_right _ (h)))) 7 (by decide) (List.mem_cons_of_mem _ (List.mem_append_left _ (List.mem_append_left _ (List.mem_append_left _ (List.mem_append_left _ (List.mem_append_left _ (List.mem_of_getElem? (i := 6) rfl))))))) rfl rfl (bI_nar _) (bI_fit _) (j := 72) (fun z9 => by simp [un_F, upd]) (by decide) hS (fun _ h => h) dX1_close_99 (fun H locs hP zH fH hS => ?_)
          refine lv_iload_n hx hb dX1_close_102 rfl (lv_at hl 3 rfl) ?_
          refine lv_aload_n hx hb dX1_close_103 rfl (lv_at hl 2 rfl) ?_
          refine k_get S hK (dz_d hP) rfl (fun _ h => List.mem_cons_of_mem _ (List.mem_append_left _ (List.mem_append_left _ (List.mem_append_left _ (List.mem_append_right _ (h)))))) 2 (by decide) (List.mem_cons_of_mem _ (List.mem_append_left _ (List.mem_append_left _ (List.mem_append_left _ (List.mem_append_left _ (List.mem_append_left _ (List.mem_of_getElem? (i := 5) rfl))))))) rfl (v := .ref (d + 3)) rfl dX1_close_104 ?_
          refine lv_iload hx hb dX1_close_107 (lv_at hl 0 rfl) ?_
          refine k_aald hx hb hK (t := 3) rfl (dz_ua hP) (by omega) (by decide) (v := d + 2*(nbr r9) + 19) rfl dX1_close_109 ?_
          refine k_get S hK (dz_u hP (nbr r9) (by rw [cn_u (by omega)]; exact (by rw [cn_pvZ]; exact hrl.1))) rfl (fun _ h => List.mem_cons_of_mem _ (List.mem_append_left _ (List.mem_append_right _ (h)))) 7 (by decide) (List.mem_cons_of_mem _ (List.mem_append_left _ (List.mem_append_left _ (List.mem_append_left _ (List.mem_append_left _ (List.mem_append_left _ (List.mem_of_getElem? (i := 6) rfl))))))) rfl (v := .int (bI (payP z1 (nbr r9)))) (congrArg (fun x => some (Value.int x)) (upd_s)) dX1_close_110 ?_
          refine lv_if_eq (tgt := 129) hx hb dX1_close_113 (by decide) (fun c113 => ?_) (fun c113 => ?_)
          · refine lv_iconst (v := nI 0) hx hb dX1_close_129 (by decide) ?_
            refine lv_iadd hx hb dX1_close_130 ?_
            refine lv_istore_n (lv' := [(1, .int (a + (nI 0))), (4, .int (nI (nbr r9))), (2, .int (nI r9)), (0, .ref d), (3, .int (nI i))]) hx hb dX1_close_131 rfl hl (by decide) rfl (fun ls hl => ?_)
            refine lv_iinc (v := nI (i + 1)) (lv' := [(3, .int (nI (i + 1))), (1, .int (a + (nI 0))), (4, .int (nI (nbr r9))), (2, .int (nI r9)), (0, .ref d)]) hx hb dX1_close_132 hl (k := 4) rfl (inc_1 _) (by decide) rfl (fun ls hl => ?_)
            refine lv_goto (tgt := 44) hx hb dX1_close_135 (by decide) ?_
            have hl : lv_has ls 5 [(0, .ref d), (1, .int (a + iF (payP z1 (nbr r9)) (z1 (13*nbr r9 + 70)) (nI 0))), (2, .int (nI r9)), (3, .int (nI (i + 1)))] := by
              have h9 := lv_sub (l' := [(0, .ref d), (1, .int (a + (nI 0))), (2, .int (nI r9)), (3, .int (nI (i + 1)))]) hl [4, 1, 3, 0] rfl
              rw [show (.int (a + iF (payP z1 (nbr r9)) (z1 (13*nbr r9 + 70)) (nI 0)) : Value) = .int (a + (nI 0)) from congrArg Value.int (congrArg (fun x => a + x) (iF_f (bI_0.mp c113)))]
              exact h9
            exact ih (payZ z1 (nbr r9)) r9 (a + iF (payP z1 (nbr r9)) (z1 (13*nbr r9 + 70)) (nI 0)) f (i + 1) hpi.1 ((cc_s hb9).symm.trans hR) (by omega) (hpi.2.1.trans hcz) (by omega) (by omega) _ _ (show dz E d (payZ z1 (nbr r9)) _ from (dz_z hP (pay_ag hwt.2))) hS _ hl
          · refine lv_aload_n hx hb dX1_close_116 rfl (lv_at hl 2 rfl) ?_
            refine k_get S hK (dz_d hP) rfl (fun _ h => List.mem_cons_of_mem _ (List.mem_append_left _ (List.mem_append_left _ (List.mem_append_left _ (List.mem_append_right _ (h)))))) 2 (by decide) (List.mem_cons_of_mem _ (List.mem_append_left _ (List.mem_append_left _ (List.mem_append_left _ (List.mem_append_left _ (List.mem_append_left _ (List.mem_of_getElem? (i := 5) rfl))))))) rfl (v := .ref (d + 3)) rfl dX1_close_117 ?_
            refine lv_iload hx hb dX1_close_120 (lv_at hl 0 rfl) ?_
            refine k_aald hx hb hK (t := 3) rfl (dz_ua hP) (by omega) (by decide) (v := d + 2*(nbr r9) + 19) rfl dX1_close_122 ?_
            refine k_get S hK (dz_u hP (nbr r9) (by rw [cn_u (by omega)]; exact (by rw [cn_pvZ]; exact hrl.1))) rfl (fun _ h => List.mem_cons_of_mem _ (List.mem_append_left _ (List.mem_append_right _ (h)))) 5 (by decide) (List.mem_cons_of_mem _ (List.mem_append_left _ (List.mem_append_left _ (List.mem_append_left _ (List.mem_append_left _ (List.mem_append_left _ (List.mem_of_getElem? (i := 7) rfl))))))) rfl (v := .int (z1 (13*nbr r9 + 70))) (congrArg (fun x => some (Value.int x)) ((upd_n (by omega)).trans ((pvZ_70 hub4)))) dX1_close_123 ?_
            refine lv_goto (tgt := 130) hx hb dX1_close_126 (by decide) ?_
            refine lv_iadd hx hb dX1_close_130 ?_
            refine lv_istore_n (lv' := [(1, .int (a + (z1 (13*nbr r9 + 70)))), (4, .int (nI (nbr r9))), (2, .int (nI r9)), (0, .ref d), (3, .int (nI i))]) hx hb dX1_close_131 rfl hl (by decide) rfl (fun ls hl => ?_)
            refine lv_iinc (v := nI (i + 1)) (lv' := [(3, .int (nI (i + 1))), (1, .int (a + (z1 (13*nbr r9 + 70)))), (4, .int (nI (nbr r9))), (2, .int (nI r9)), (0, .ref d)]) hx hb dX1_close_132 hl (k := 4) rfl (inc_1 _) (by decide) rfl (fun ls hl => ?_)
            refine lv_goto (tgt := 44) hx hb dX1_close_135 (by decide) ?_
            have hl : lv_has ls 5 [(0, .ref d), (1, .int (a + iF (payP z1 (nbr r9)) (z1 (13*nbr r9 + 70)) (nI 0))), (2, .int (nI r9)), (3, .int (nI (i + 1)))] := by
              have h9 := lv_sub (l' := [(0, .ref d), (1, .int (a + (z1 (13*nbr r9 + 70)))), (2, .int (nI r9)), (3, .int (nI (i + 1)))]) hl [4, 1, 3, 0] rfl
              rw [show (.int (a + iF (payP z1 (nbr r9)) (z1 (13*nbr r9 + 70)) (nI 0)) : Value) = .int (a + (z1 (13*nbr r9 + 70))) from congrArg Value.int (congrArg (fun x => a + x) ((iF_t (Classical.byContradiction fun q => c113 (bI_0.mpr q))).trans (show z1 (13*nbr r9 + 70) = _ from rfl)))]
              exact h9
            exact ih (payZ z1 (nbr r9)) r9 (a + iF (payP z1 (nbr r9)) (z1 (13*nbr r9 + 70)) (nI 0)) f (i + 1) hpi.1 ((cc_s hb9).symm.trans hR) (by omega) (hpi.2.1.trans hcz) (by omega) (by omega) _ _ (show dz E d (payZ z1 (nbr r9)) _ from (dz_z hP (pay_ag hwt.2))) hS _ hl
  refine lv_aload_n hx hb dX1_close_0 rfl (lv_at hl 0 rfl) ?_
  refine lv_dup hx hb dX1_close_1 rfl ?_
  refine k_get S hK (dz_d hP) rfl (fun _ h => List.mem_cons_of_mem _ (List.mem_append_left _ (List.mem_append_left _ (List.mem_append_left _ (List.mem_append_right _ (h)))))) 6 (by decide) (List.mem_cons_of_mem _ (List.mem_append_left _ (List.mem_append_left _ (List.mem_append_left _ (List.mem_append_left _ (List.mem_append_left _ (List.mem_of_getElem? (i := 0) rfl))))))) rfl (v := .int (z 5)) rfl dX1_close_2 ?_
  refine lv_iconst (v := nI 1) hx hb dX1_close_5 (by decide) ?_
  refine lv_iadd hx hb dX1_close_6 ?_
  refine dz_putD S hK hP (fun _ h => List.mem_cons_of_mem _ (List.mem_append_left _ (List.mem_append_left _ (List.mem_append_left _ (List.mem_append_right _ (h)))))) 6 (by decide) (List.mem_cons_of_mem _ (List.mem_append_left _ (List.mem_append_left _ (List.mem_append_left _ (List.mem_append_left _ (List.mem_append_left _ (List.mem_of_getElem? (i := 0) rfl))))))) rfl rfl rfl rfl (j := 5) (fun z9 => by simp [dk_F, upd]) (by decide) hS (fun _ h => h) dX1_close_7 (fun H locs hP zH fH hS => ?_)
  refine lv_iconst (v := nI 0) hx hb dX1_close_10 (by decide) ?_
  refine lv_istore_n (lv' := [(1, .int (nI 0)), (0, .ref d)]) hx hb dX1_close_11 rfl hl (by decide) rfl (fun ls hl => ?_)
  refine lv_iload_n hx hb dX1_close_12 rfl (lv_at hl 0 rfl) ?_
  refine lv_aload_n hx hb dX1_close_13 rfl (lv_at hl 1 rfl) ?_
  refine k_get S hK (dz_d hP) rfl (fun _ h => List.mem_cons_of_mem _ (List.mem_append_left _ (List.mem_append_left _ (List.mem_append_left _ (List.mem_append_right _ (h)))))) 1 (by decide) (List.mem_cons_of_mem _ (List.mem_append_left _ (List.mem_append_left _ (List.mem_append_left _ (List.mem_append_left _ (List.mem_append_left _ (List.mem_of_getElem? (i := 1) rfl))))))) rfl (v := .ref (d + 2)) rfl dX1_close_14 ?_
  refine k_alen hx hb hK (t := 2) rfl (dz_va hP) dX1_close_17 ?_
  refine k_top (y := nI 4) rfl ?_
  refine n_ige (tgt := 37) hx hb dX1_close_18 (by decide) (by omega) (by omega) (fun h => absurd h (by decide)) (fun c18 => ?_)
  refine lv_aload_n hx hb dX1_close_21 rfl (lv_at hl 1 rfl) ?_
  refine k_get S hK (dz_d hP) rfl (fun _ h => List.mem_cons_of_mem _ (List.mem_append_left _ (List.mem_append_left _ (List.mem_append_left _ (List.mem_append_right _ (h)))))) 1 (by decide) (List.mem_cons_of_mem _ (List.mem_append_left _ (List.mem_append_left _ (List.mem_append_left _ (List.mem_append_left _ (List.mem_append_left _ (List.mem_of_getElem? (i := 1) rfl))))))) rfl (v := .ref (d + 2)) rfl dX1_close_22 ?_
  refine lv_iload_n hx hb dX1_close_25 rfl (lv_at hl 0 rfl) ?_
  refine k_aald hx hb hK (t := 2) rfl (dz_va hP) (by omega) (by decide) (v := d + 2*0 + 11) rfl dX1_close_26 ?_
  refine lv_iconst (v := nI 0) hx hb dX1_close_27 (by decide) ?_
  refine dz_putV c18 S hK hP (fun _ h => List.mem_cons_of_mem _ (List.mem_append_left _ (List.mem_append_left _ (List.mem_append_right _ (h))))) 2 (by decide) (List.mem_cons_of_mem _ (List.mem_append_left _ (List.mem_append_left _ (List.mem_append_left _ (List.mem_append_left _ (List.mem_append_left _ (List.mem_of_getElem? (i := 2) rfl))))))) rfl rfl rfl rfl (j := 31) (fun z9 => by simp [ve_F, upd]) (by decide) hS (fun _ h => h) dX1_close_28 (fun H locs hP zH fH hS => ?_)
  refine lv_iinc (v := nI 1) (lv' := [(1, .int (nI 1)), (0, .ref d)]) hx hb dX1_close_31 hl (k := 0) rfl (by decide) (by decide) rfl (fun ls hl => ?_)
  refine lv_goto (tgt := 12) hx hb dX1_close_34 (by decide) ?_
  refine lv_iload_n hx hb dX1_close_12 rfl (lv_at hl 0 rfl) ?_
  refine lv_aload_n hx hb dX1_close_13 rfl (lv_at hl 1 rfl) ?_
  refine k_get S hK (dz_d hP) rfl (fun _ h => List.mem_cons_of_mem _ (List.mem_append_left _ (List.mem_append_left _ (List.mem_append_left _ (List.mem_append_right _ (h)))))) 1 (by decide) (List.mem_cons_of_mem _ (List.mem_append_left _ (List.mem_append_left _ (List.mem_append_left _ (List.mem_append_left _ (List.mem_append_left _ (List.mem_of_getElem? (i := 1) rfl))))))) rfl (v := .ref (d + 2)) rfl dX1_close_14 ?_
  refine k_alen hx hb hK (t := 2) rfl (dz_va hP) dX1_close_17 ?_
  refine k_top (y := nI 4) rfl ?_
  refine n_ige (tgt := 37) hx hb dX1_close_18 (by decide) (by omega) (by omega) (fun h => absurd h (by decide)) (fun c18_1 => ?_)
  refine lv_aload_n hx hb dX1_close_21 rfl (lv_at hl 1 rfl) ?_
  refine k_get S hK (dz_d hP) rfl (fun _ h => List.mem_cons_of_mem _ (List.mem_append_left _ (List.mem_append_left _ (List.mem_append_left _ (List.mem_append_right _ (h)))))) 1 (by decide) (List.mem_cons_of_mem _ (List.mem_append_left _ (List.mem_append_left _ (List.mem_append_left _ (List.mem_append_left _ (List.mem_append_left _ (List.mem_of_getElem? (i := 1) rfl))))))) rfl (v := .ref (d + 2)) rfl dX1_close_22 ?_
  refine lv_iload_n hx hb dX1_close_25 rfl (lv_at hl 0 rfl) ?_
  refine k_aald hx hb hK (t := 2) rfl (dz_va hP) (by omega) (by decide) (v := d + 2*1 + 11) rfl dX1_close_26 ?_
  refine lv_iconst (v := nI 0) hx hb dX1_close_27 (by decide) ?_
  refine dz_putV c18_1 S hK hP (fun _ h => List.mem_cons_of_mem _ (List.mem_append_left _ (List.mem_append_left _ (List.mem_append_right _ (h))))) 2 (by decide) (List.mem_cons_of_mem _ (List.mem_append_left _ (List.mem_append_left _ (List.mem_append_left _ (List.mem_append_left _ (List.mem_append_left _ (List.mem_of_getElem? (i := 2) rfl))))))) rfl rfl rfl rfl (j := 31) (fun z9 => by simp [ve_F, upd]) (by decide) hS (fun _ h => h) dX1_close_28 (fun H locs hP zH fH hS => ?_)
  refine lv_iinc (v := nI 2) (lv' := [(1, .int (nI 2)), (0, .ref d)]) hx hb dX1_close_31 hl (k := 0) rfl (by decide) (by decide) rfl (fun ls hl => ?_)
  refine lv_goto (tgt := 12) hx hb dX1_close_34 (by decide) ?_
  refine lv_iload_n hx hb dX1_close_12 rfl (lv_at hl 0 rfl) ?_
  refine lv_aload_n hx hb dX1_close_13 rfl (lv_at hl 1 rfl) ?_
  refine k_get S hK (dz_d hP) rfl (fun _ h => List.mem_cons_of_mem _ (List.mem_append_left _ (List.mem_append_left _ (List.mem_append_left _ (List.mem_append_right _ (h)))))) 1 (by decide) (List.mem_cons_of_mem _ (List.mem_append_left _ (List.mem_append_left _ (List.mem_append_left _ (List.mem_append_left _ (List.mem_append_left _ (List.mem_of_getElem? (i := 1) rfl))))))) rfl (v := .ref (d + 2)) rfl dX1_close_14 ?_
  refine k_alen hx hb hK (t := 2) rfl (dz_va hP) dX1_close_17 ?_
  refine k_top (y := nI 4) rfl ?_
  refine n_ige (tgt := 37) hx hb dX1_close_18 (by decide) (by omega) (by omega) (fun h => absurd h (by decide)) (fun c18_2 => ?_)
  refine lv_aload_n hx hb dX1_close_21 rfl (lv_at hl 1 rfl) ?_
  refine k_get S hK (dz_d hP) rfl (fun _ h => List.mem_cons_of_mem _ (List.mem_append_left _ (List.mem_append_left _ (List.mem_append_left _ (List.mem_append_right _ (h)))))) 1 (by decide) (List.mem_cons_of_mem _ (List.mem_append_left _ (List.mem_append_left _ (List.mem_append_left _ (List.mem_append_left _ (List.mem_append_left _ (List.mem_of_getElem? (i := 1) rfl))))))) rfl (v := .ref (d + 2)) rfl dX1_close_22 ?_
  refine lv_iload_n hx hb dX1_close_25 rfl (lv_at hl 0 rfl) ?_
  refine k_aald hx hb hK (t := 2) rfl (dz_va hP) (by omega) (by decide) (v := d + 2*2 + 11) rfl dX1_close_26 ?_
  refine lv_iconst (v := nI 0) hx hb dX1_close_27 (by decide) ?_
  refine dz_putV c18_2 S hK hP (fun _ h => List.mem_cons_of_mem _ (List.mem_append_left _ (List.mem_append_left _ (List.mem_append_right _ (h))))) 2 (by decide) (List.mem_cons_of_mem _ (List.mem_append_left _ (List.mem_append_left _ (List.mem_append_left _ (List.mem_append_left _ (List.mem_append_left _ (List.mem_of_getElem? (i := 2) rfl))))))) rfl rfl rfl rfl (j := 31) (fun z9 => by simp [ve_F, upd]) (by decide) hS (fun _ h => h) dX1_close_28 (fun H locs hP zH fH hS => ?_)
  refine lv_iinc (v := nI 3) (lv' := [(1, .int (nI 3)), (0, .ref d)]) hx hb dX1_close_31 hl (k := 0) rfl (by decide) (by decide) rfl (fun ls hl => ?_)
  refine lv_goto (tgt := 12) hx hb dX1_close_34 (by decide) ?_
  refine lv_iload_n hx hb dX1_close_12 rfl (lv_at hl 0 rfl) ?_
  refine lv_aload_n hx hb dX1_close_13 rfl (lv_at hl 1 rfl) ?_
  refine k_get S hK (dz_d hP) rfl (fun _ h => List.mem_cons_of_mem _ (List.mem_append_left _ (List.mem_append_left _ (List.mem_append_left _ (List.mem_append_right _ (h)))))) 1 (by decide) (List.mem_cons_of_mem _ (List.mem_append_left _ (List.mem_append_left _ (List.mem_append_left _ (List.mem_append_left _ (List.mem_append_left _ (List.mem_of_getElem? (i := 1) rfl))))))) rfl (v := .ref (d + 2)) rfl dX1_close_14 ?_
  refine k_alen hx hb hK (t := 2) rfl (dz_va hP) dX1_close_17 ?_
  refine k_top (y := nI 4) rfl ?_
  refine n_ige (tgt := 37) hx hb dX1_close_18 (by decide) (by omega) (by omega) (fun h => absurd h (by decide)) (fun c18_3 => ?_)
  refine lv_aload_n hx hb dX1_close_21 rfl (lv_at hl 1 rfl) ?_
  refine k_get S hK (dz_d hP) rfl (fun _ h => List.mem_cons_of_mem _ (List.mem_append_left _ (List.mem_append_left _ (List.mem_append_left _ (List.mem_append_right _ (h)))))) 1 (by decide) (List.mem_cons_of_mem _ (List.mem_append_left _ (List.mem_append_left _ (List.mem_append_left _ (List.mem_append_left _ (List.mem_append_left _ (List.mem_of_getElem? (i := 1) rfl))))))) rfl (v := .ref (d + 2)) rfl dX1_close_22 ?_
  refine lv_iload_n hx hb dX1_close_25 rfl (lv_at hl 0 rfl) ?_
  refine k_aald hx hb hK (t := 2) rfl (dz_va hP) (by omega) (by decide) (v := d + 2*3 + 11) rfl dX1_close_26 ?_
  refine lv_iconst (v := nI 0) hx hb dX1_close_27 (by decide) ?_
  refine dz_putV c18_3 S hK hP (fun _ h => List.mem_cons_of_mem _ (List.mem_append_left _ (List.mem_append_left _ (List.mem_append_right _ (h))))) 2 (by decide) (List.mem_cons_of_mem _ (List.mem_append_left _ (List.mem_append_left _ (List.mem_append_left _ (List.mem_append_left _ (List.mem_append_left _ (List.mem_of_getElem? (i := 2) rfl))))))) rfl rfl rfl rfl (j := 31) (fun z9 => by simp [ve_F, upd]) (by decide) hS (fun _ h => h) dX1_close_28 (fun H locs hP zH fH hS => ?_)
  refine lv_iinc (v := nI 4) (lv' := [(1, .int (nI 4)), (0, .ref d)]) hx hb dX1_close_31 hl (k := 0) rfl (by decide) (by decide) rfl (fun ls hl => ?_)
  refine lv_goto (tgt := 12) hx hb dX1_close_34 (by decide) ?_
  refine lv_iload_n hx hb dX1_close_12 rfl (lv_at hl 0 rfl) ?_
  refine lv_aload_n hx hb dX1_close_13 rfl (lv_at hl 1 rfl) ?_
  refine k_get S hK (dz_d hP) rfl (fun _ h => List.mem_cons_of_mem _ (List.mem_append_left _ (List.mem_append_left _ (List.mem_append_left _ (List.mem_append_right _ (h)))))) 1 (by decide) (List.mem_cons_of_mem _ (List.mem_append_left _ (List.mem_append_left _ (List.mem_append_left _ (List.mem_append_left _ (List.mem_append_left _ (List.mem_of_getElem? (i := 1) rfl))))))) rfl (v := .ref (d + 2)) rfl dX1_close_14 ?_
  refine k_alen hx hb hK (t := 2) rfl (dz_va hP) dX1_close_17 ?_
  refine k_top (y := nI 4) rfl ?_
  refine n_ige (tgt := 37) hx hb dX1_close_18 (by decide) (by omega) (by omega) (fun c18_4 => ?_) (fun h => absurd h (by decide))
  refine lv_iconst (v := nI 0) hx hb dX1_close_37 (by decide) ?_
  refine lv_istore_n (lv' := [(1, .int (nI 0)), (0, .ref d)]) hx hb dX1_close_38 rfl hl (by decide) rfl (fun ls hl => ?_)
  refine lv_ldc (v := nI 1000000000) hx hb S.2.2.2.1 (hts _ (List.mem_cons_of_mem _ (List.mem_append_left _ (List.mem_append_left _ (List.mem_append_left _ (List.mem_append_left _ (List.mem_append_left _ (List.mem_of_getElem? (i := 3) rfl)))))))) dX1_close_39 ?_
  refine lv_istore_n (lv' := [(2, .int (nI 1000000000)), (1, .int (nI 0)), (0, .ref d)]) hx hb dX1_close_41 rfl hl (by decide) rfl (fun ls hl => ?_)
  refine lv_iconst (v := nI 0) hx hb dX1_close_42 (by decide) ?_
  refine lv_istore_n (lv' := [(3, .int (nI 0)), (2, .int (nI 1000000000)), (1, .int (nI 0)), (0, .ref d)]) hx hb dX1_close_43 rfl hl (by decide) rfl (fun ls hl => ?_)
  exact J44 ((cn z) + 1) (clz z) 1000000000 (nI 0) (cn z) 0 (iv_clz hI) (cc_cloZ hI) (by omega) cn_clz (by omega) (by omega) _ _ (show dz E d (clz z) _ from (dz_z hP clz_ag)) hS _ (lv_sub hl [3, 2, 1, 0] rfl)
