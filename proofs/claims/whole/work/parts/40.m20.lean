/-! ===== what throws ===== -/
theorem not_inR {x : Int32} {b : Nat} (hb : b < 2 ^ 31 - 1) (h : ¬ inR x (b + 1)) : x.toInt < 0 ∨ (b : Int) < x.toInt := by
  apply Classical.byContradiction
  intro q
  apply h
  refine ⟨x.toInt.toNat, by omega, ?_⟩
  apply Int32.toInt_inj.mp
  rw [nI_toInt (by omega)]
  omega
def rx_X6_requireRange : Room := { frames := 6, cells := 1, slots := 6, locals := 82 }
set_option maxHeartbeats 4000000 in
set_option maxRecDepth 100000 in
theorem x_X6_requireRange (l : Launch) (hlS : l.stackTraces = false) (E : ke_E) (A : Nat → Prop) (a : Nat) (b : Nat) (x : Int32) (h1 : ¬ (nI a ≤ x ∧ x ≤ nI b)) : tM l yX6_requireRange wsX6_requireRange rx_X6_requireRange E A [.int x, .int (nI a), .int (nI b)] (fun _ => True) "java/lang/IllegalArgumentException" := by
  refine t_hd (cc := cX6_requireRange) (maxL := 3) (ret := none) (by decide) rfl (Nat.le_of_ble_eq_true rfl) ?_
  intro p e s m below meth c ls S hlk hout hK hX hP hl
  have hx := S.1
  have hb := S.2.1
  have hts := S.2.2.2.2
  have hl : lv_has ls 3 [(0, .int x), (1, .int (nI a)), (2, .int (nI b))] := hl
  refine lv_iload_n hx hb dX6_requireRange_0 rfl (lv_at hl 0 rfl) ?_
  refine lv_iload_n hx hb dX6_requireRange_1 rfl (lv_at hl 1 rfl) ?_
  refine lv_icmp_lt (tgt := 10) hx hb dX6_requireRange_2 (by decide) (fun c2 => ?_) (fun c2 => ?_)
  · exact t_thW1 hlS S hX (List.mem_of_getElem? (i := 17) rfl) (List.mem_cons_of_mem _ (List.mem_append_left _ (List.mem_of_getElem? (i := 0) rfl))) (List.mem_cons_of_mem _ (List.mem_append_left _ (List.mem_of_getElem? (i := 1) rfl))) (fun _ h => List.mem_cons_of_mem _ (List.mem_append_right _ (h))) hl.1 hlk hout dX6_requireRange_10 dX6_requireRange_13 dX6_requireRange_14 dX6_requireRange_17 dX6_requireRange_20 ⟨Nat.le_of_ble_eq_true rfl, Nat.le_of_ble_eq_true rfl, Nat.le_of_ble_eq_true rfl, Nat.le_of_ble_eq_true rfl⟩
  · refine lv_iload_n hx hb dX6_requireRange_5 rfl (lv_at hl 0 rfl) ?_
    refine lv_iload_n hx hb dX6_requireRange_6 rfl (lv_at hl 2 rfl) ?_
    refine lv_icmp_le (tgt := 21) hx hb dX6_requireRange_7 (by decide) (fun h => absurd h (fun q => h1 ⟨Int32.not_lt.mp c2, q⟩)) (fun c7 => ?_)
    exact t_thW1 hlS S hX (List.mem_of_getElem? (i := 17) rfl) (List.mem_cons_of_mem _ (List.mem_append_left _ (List.mem_of_getElem? (i := 0) rfl))) (List.mem_cons_of_mem _ (List.mem_append_left _ (List.mem_of_getElem? (i := 1) rfl))) (fun _ h => List.mem_cons_of_mem _ (List.mem_append_right _ (h))) hl.1 hlk hout dX6_requireRange_10 dX6_requireRange_13 dX6_requireRange_14 dX6_requireRange_17 dX6_requireRange_20 ⟨Nat.le_of_ble_eq_true rfl, Nat.le_of_ble_eq_true rfl, Nat.le_of_ble_eq_true rfl, Nat.le_of_ble_eq_true rfl⟩
def rx_X6_unitNumbered : Room := { frames := 6, cells := 1, slots := 6, locals := 82 }
set_option maxHeartbeats 4000000 in
set_option maxRecDepth 100000 in
theorem x_X6_unitNumbered (l : Launch) (hlS : l.stackTraces = false) (E : ke_E) (A : Nat → Prop) (o : Nat) (z : Nat → Int32) (x : Int32) (hI : iv z) (h1 : ¬ inR x (cn z)) : tM l yX6_unitNumbered wsX6_unitNumbered rx_X6_unitNumbered E A [.ref o, .int x] (fun H => gg E o H ∧ dz E (o + 1) z H) "java/lang/IndexOutOfBoundsException" := by
  refine t_hd (cc := cX6_unitNumbered) (maxL := 2) (ret := (some (.object "ReturnGrades$Unit"))) (by decide) rfl (Nat.le_of_ble_eq_true rfl) ?_
  intro p e s m below meth c ls S hlk hout hK hX hP hl
  have hx := S.1
  have hb := S.2.1
  have hts := S.2.2.2.2
  obtain ⟨hP0, hP1⟩ := hP
  have hl : lv_has ls 2 [(0, .ref o), (1, .int x)] := hl
  have hc20 := iv_c hI
  refine lv_iload_n hx hb dX6_unitNumbered_0 rfl (lv_at hl 1 rfl) ?_
  refine lv_aload_n hx hb dX6_unitNumbered_1 rfl (lv_at hl 0 rfl) ?_
  refine k_get S hK hP0 rfl (fun _ h => List.mem_cons_of_mem _ (List.mem_append_left _ (List.mem_append_left _ (List.mem_append_right _ (h))))) 0 (by decide) (List.mem_cons_of_mem _ (List.mem_append_left _ (List.mem_append_left _ (List.mem_append_left _ (List.mem_of_getElem? (i := 2) rfl))))) rfl (v := .ref (o + 1)) rfl dX6_unitNumbered_2 ?_
  refine k_get S hK (dz_d hP1) rfl (fun _ h => List.mem_cons_of_mem _ (List.mem_append_left _ (List.mem_append_right _ (h)))) 4 (by decide) (List.mem_cons_of_mem _ (List.mem_append_left _ (List.mem_append_left _ (List.mem_append_left _ (List.mem_of_getElem? (i := 3) rfl))))) rfl (v := .int (nI (cn z))) (congrArg (fun x => some (Value.int x)) ((iv_n hI))) dX6_unitNumbered_5 ?_
  refine k_S (As := [.int x, .int (nI (cn z))]) (rest := []) S hK (c_X6_isIndex l E x (cn z) (by omega)) gX6_unitNumbered_X6_isIndex rfl hd_X6_isIndex ⟨rfl, rfl⟩ ⟨Nat.le_of_ble_eq_true rfl, Nat.le_of_ble_eq_true rfl⟩ trivial rfl hl.1 rfl (Nat.le_of_ble_eq_true rfl) dX6_unitNumbered_8 ⟨Nat.le_of_ble_eq_true rfl, Nat.le_of_ble_eq_true rfl⟩ ?_
  refine b_eq (tgt := 29) hx hb dX6_unitNumbered_11 (by decide) (fun c11 => ?_) (fun h => absurd h h1)
  exact t_thW0 hlS S hX (List.mem_of_getElem? (i := 14) rfl) (List.mem_cons_of_mem _ (List.mem_append_left _ (List.mem_append_left _ (List.mem_append_left _ (List.mem_of_getElem? (i := 0) rfl))))) (List.mem_cons_of_mem _ (List.mem_append_left _ (List.mem_append_left _ (List.mem_append_left _ (List.mem_of_getElem? (i := 1) rfl))))) (fun _ h => List.mem_cons_of_mem _ (List.mem_append_right _ (h))) hl.1 hlk hout dX6_unitNumbered_29 dX6_unitNumbered_32 dX6_unitNumbered_33 dX6_unitNumbered_36 dX6_unitNumbered_39 ⟨Nat.le_of_ble_eq_true rfl, Nat.le_of_ble_eq_true rfl, Nat.le_of_ble_eq_true rfl, Nat.le_of_ble_eq_true rfl⟩
def rx_X6_productNumbered : Room := { frames := 6, cells := 1, slots := 6, locals := 82 }
set_option maxHeartbeats 4000000 in
set_option maxRecDepth 100000 in
theorem x_X6_productNumbered (l : Launch) (hlS : l.stackTraces = false) (E : ke_E) (A : Nat → Prop) (o : Nat) (z : Nat → Int32) (x : Int32) (hI : iv z) (h1 : ¬ inR x 6) : tM l yX6_productNumbered wsX6_productNumbered rx_X6_productNumbered E A [.ref o, .int x] (fun H => gg E o H ∧ dz E (o + 1) z H) "java/lang/IndexOutOfBoundsException" := by
  refine t_hd (cc := cX6_productNumbered) (maxL := 2) (ret := (some (.object "ReturnGrades$Product"))) (by decide) rfl (Nat.le_of_ble_eq_true rfl) ?_
  intro p e s m below meth c ls S hlk hout hK hX hP hl
  have hx := S.1
  have hb := S.2.1
  have hts := S.2.2.2.2
  obtain ⟨hP0, hP1⟩ := hP
  have hl : lv_has ls 2 [(0, .ref o), (1, .int x)] := hl
  have hc20 := iv_c hI
  refine lv_iload_n hx hb dX6_productNumbered_0 rfl (lv_at hl 1 rfl) ?_
  refine lv_aload_n hx hb dX6_productNumbered_1 rfl (lv_at hl 0 rfl) ?_
  refine k_get S hK hP0 rfl (fun _ h => List.mem_cons_of_mem _ (List.mem_append_left _ (List.mem_append_left _ (List.mem_append_right _ (h))))) 0 (by decide) (List.mem_cons_of_mem _ (List.mem_append_left _ (List.mem_append_left _ (List.mem_append_left _ (List.mem_of_getElem? (i := 2) rfl))))) rfl (v := .ref (o + 1)) rfl dX6_productNumbered_2 ?_
  refine k_get S hK (dz_d hP1) rfl (fun _ h => List.mem_cons_of_mem _ (List.mem_append_left _ (List.mem_append_right _ (h)))) 0 (by decide) (List.mem_cons_of_mem _ (List.mem_append_left _ (List.mem_append_left _ (List.mem_append_left _ (List.mem_of_getElem? (i := 3) rfl))))) rfl (v := .ref (o + 1 + 1)) rfl dX6_productNumbered_5 ?_
  refine k_alen hx hb hK (t := 1) rfl (dz_pa hP1) dX6_productNumbered_8 ?_
  refine k_top (y := nI 6) rfl ?_
  refine k_S (As := [.int x, .int (nI 6)]) (rest := []) S hK (c_X6_isIndex l E x 6 (by omega)) gX6_productNumbered_X6_isIndex rfl hd_X6_isIndex ⟨rfl, rfl⟩ ⟨Nat.le_of_ble_eq_true rfl, Nat.le_of_ble_eq_true rfl⟩ trivial rfl hl.1 rfl (Nat.le_of_ble_eq_true rfl) dX6_productNumbered_9 ⟨Nat.le_of_ble_eq_true rfl, Nat.le_of_ble_eq_true rfl⟩ ?_
  refine b_ne (tgt := 26) hx hb dX6_productNumbered_12 (by decide) (fun h => absurd h h1) (fun c12 => ?_)
  exact t_thW0 hlS S hX (List.mem_of_getElem? (i := 15) rfl) (List.mem_cons_of_mem _ (List.mem_append_left _ (List.mem_append_left _ (List.mem_append_left _ (List.mem_of_getElem? (i := 0) rfl))))) (List.mem_cons_of_mem _ (List.mem_append_left _ (List.mem_append_left _ (List.mem_append_left _ (List.mem_of_getElem? (i := 1) rfl))))) (fun _ h => List.mem_cons_of_mem _ (List.mem_append_right _ (h))) hl.1 hlk hout dX6_productNumbered_15 dX6_productNumbered_18 dX6_productNumbered_19 dX6_productNumbered_22 dX6_productNumbered_25 ⟨Nat.le_of_ble_eq_true rfl, Nat.le_of_ble_eq_true rfl, Nat.le_of_ble_eq_true rfl, Nat.le_of_ble_eq_true rfl⟩
def rx_X6_vendorNumbered : Room := { frames := 6, cells := 1, slots := 6, locals := 82 }
set_option maxHeartbeats 4000000 in
set_option maxRecDepth 100000 in
theorem x_X6_vendorNumbered (l : Launch) (hlS : l.stackTraces = false) (E : ke_E) (A : Nat → Prop) (o : Nat) (z : Nat → Int32) (x : Int32) (hI : iv z) (h1 : ¬ inR x 4) : tM l yX6_vendorNumbered wsX6_vendorNumbered rx_X6_vendorNumbered E A [.ref o, .int x] (fun H => gg E o H ∧ dz E (o + 1) z H) "java/lang/IndexOutOfBoundsException" := by
  refine t_hd (cc := cX6_vendorNumbered) (maxL := 2) (ret := (some (.object "ReturnGrades$Vendor"))) (by decide) rfl (Nat.le_of_ble_eq_true rfl) ?_
  intro p e s m below meth c ls S hlk hout hK hX hP hl
  have hx := S.1
  have hb := S.2.1
  have hts := S.2.2.2.2
  obtain ⟨hP0, hP1⟩ := hP
  have hl : lv_has ls 2 [(0, .ref o), (1, .int x)] := hl
  have hc20 := iv_c hI
  refine lv_iload_n hx hb dX6_vendorNumbered_0 rfl (lv_at hl 1 rfl) ?_
  refine lv_aload_n hx hb dX6_vendorNumbered_1 rfl (lv_at hl 0 rfl) ?_
  refine k_get S hK hP0 rfl (fun _ h => List.mem_cons_of_mem _ (List.mem_append_left _ (List.mem_append_left _ (List.mem_append_right _ (h))))) 0 (by decide) (List.mem_cons_of_mem _ (List.mem_append_left _ (List.mem_append_left _ (List.mem_append_left _ (List.mem_of_getElem? (i := 2) rfl))))) rfl (v := .ref (o + 1)) rfl dX6_vendorNumbered_2 ?_
  refine k_get S hK (dz_d hP1) rfl (fun _ h => List.mem_cons_of_mem _ (List.mem_append_left _ (List.mem_append_right _ (h)))) 1 (by decide) (List.mem_cons_of_mem _ (List.mem_append_left _ (List.mem_append_left _ (List.mem_append_left _ (List.mem_of_getElem? (i := 3) rfl))))) rfl (v := .ref (o + 1 + 2)) rfl dX6_vendorNumbered_5 ?_
  refine k_alen hx hb hK (t := 2) rfl (dz_va hP1) dX6_vendorNumbered_8 ?_
  refine k_top (y := nI 4) rfl ?_
  refine k_S (As := [.int x, .int (nI 4)]) (rest := []) S hK (c_X6_isIndex l E x 4 (by omega)) gX6_vendorNumbered_X6_isIndex rfl hd_X6_isIndex ⟨rfl, rfl⟩ ⟨Nat.le_of_ble_eq_true rfl, Nat.le_of_ble_eq_true rfl⟩ trivial rfl hl.1 rfl (Nat.le_of_ble_eq_true rfl) dX6_vendorNumbered_9 ⟨Nat.le_of_ble_eq_true rfl, Nat.le_of_ble_eq_true rfl⟩ ?_
  refine b_ne (tgt := 26) hx hb dX6_vendorNumbered_12 (by decide) (fun h => absurd h h1) (fun c12 => ?_)
  exact t_thW0 hlS S hX (List.mem_of_getElem? (i := 16) rfl) (List.mem_cons_of_mem _ (List.mem_append_left _ (List.mem_append_left _ (List.mem_append_left _ (List.mem_of_getElem? (i := 0) rfl))))) (List.mem_cons_of_mem _ (List.mem_append_left _ (List.mem_append_left _ (List.mem_append_left _ (List.mem_of_getElem? (i := 1) rfl))))) (fun _ h => List.mem_cons_of_mem _ (List.mem_append_right _ (h))) hl.1 hlk hout dX6_vendorNumbered_15 dX6_vendorNumbered_18 dX6_vendorNumbered_19 dX6_vendorNumbered_22 dX6_vendorNumbered_25 ⟨Nat.le_of_ble_eq_true rfl, Nat.le_of_ble_eq_true rfl, Nat.le_of_ble_eq_true rfl, Nat.le_of_ble_eq_true rfl⟩
def rx_X6_product_1 : Room := { frames := 7, cells := 1, slots := 6, locals := 103 }
set_option maxHeartbeats 4000000 in
set_option maxRecDepth 100000 in
theorem x_X6_product_1 (l : Launch) (hlS : l.stackTraces = false) (E : ke_E) (A : Nat → Prop) (o : Nat) (z : Nat → Int32) (x : Int32) (y : Int32) (w : Int32) (hI : iv z) (h1 : ¬ inR x 6) : tM l yX6_product wsX6_product rx_X6_product_1 E A [.ref o, .int x, .int y, .int w] (fun H => gg E o H ∧ dz E (o + 1) z H) "java/lang/IndexOutOfBoundsException" := by
  refine t_hd (cc := cX6_product) (maxL := 6) (ret := (some .int)) (by decide) rfl (Nat.le_of_ble_eq_true rfl) ?_
  intro p e s m below meth c ls S hlk hout hK hX hP hl
  have hx := S.1
  have hb := S.2.1
  have hts := S.2.2.2.2
  obtain ⟨hP0, hP1⟩ := hP
  have hl : lv_has ls 6 [(0, .ref o), (1, .int x), (2, .int y), (3, .int w)] := hl
  have hc20 := iv_c hI
  refine lv_aload_n hx hb dX6_product_0 rfl (lv_at hl 0 rfl) ?_
  refine lv_iload_n hx hb dX6_product_1 rfl (lv_at hl 1 rfl) ?_
  exact t_V (As := [.int x]) (rest := []) S hK hX (x_X6_productNumbered l hlS E A o z x hI h1) gX6_product_X6_productNumbered rfl hd_X6_productNumbered ⟨rfl, rfl⟩ ⟨Nat.le_of_ble_eq_true rfl, Nat.le_of_ble_eq_true rfl⟩ (k_recv hK hP0 rfl) ⟨hP0, hP1⟩ rfl hl.1 rfl (Nat.le_of_ble_eq_true rfl) dX6_product_2 ⟨Nat.le_of_ble_eq_true rfl, Nat.le_of_ble_eq_true rfl⟩ hout hlk
def rx_X6_product_2 : Room := { frames := 7, cells := 1, slots := 6, locals := 103 }
set_option maxHeartbeats 4000000 in
set_option maxRecDepth 100000 in
theorem x_X6_product_2 (l : Launch) (hlS : l.stackTraces = false) (E : ke_E) (A : Nat → Prop) (o : Nat) (z : Nat → Int32) (q : Nat) (y : Int32) (x : Int32) (hI : iv z) (hq6 : q < 6) (h1 : ¬ inR x 4) : tM l yX6_product wsX6_product rx_X6_product_2 E A [.ref o, .int (nI q), .int y, .int x] (fun H => gg E o H ∧ dz E (o + 1) z H) "java/lang/IndexOutOfBoundsException" := by
  refine t_hd (cc := cX6_product) (maxL := 6) (ret := (some .int)) (by decide) rfl (Nat.le_of_ble_eq_true rfl) ?_
  intro p e s m below meth c ls S hlk hout hK hX hP hl
  have hx := S.1
  have hb := S.2.1
  have hts := S.2.2.2.2
  obtain ⟨hP0, hP1⟩ := hP
  have hl : lv_has ls 6 [(0, .ref o), (1, .int (nI q)), (2, .int y), (3, .int x)] := hl
  have hc20 := iv_c hI
  refine lv_aload_n hx hb dX6_product_0 rfl (lv_at hl 0 rfl) ?_
  refine lv_iload_n hx hb dX6_product_1 rfl (lv_at hl 1 rfl) ?_
  refine k_V (As := [.int (nI q)]) (rest := []) S hK (c_X6_productNumbered l E o z q hI hq6) gX6_product_X6_productNumbered rfl hd_X6_productNumbered ⟨rfl, rfl⟩ ⟨Nat.le_of_ble_eq_true rfl, Nat.le_of_ble_eq_true rfl⟩ (k_recv hK hP0 rfl) ⟨hP0, hP1⟩ rfl hl.1 rfl (Nat.le_of_ble_eq_true rfl) dX6_product_2 ⟨Nat.le_of_ble_eq_true rfl, Nat.le_of_ble_eq_true rfl⟩ ?_
  refine lv_astore (lv' := [(4, .ref (o + 1 + q + 5)), (0, .ref o), (1, .int (nI q)), (2, .int y), (3, .int x)]) hx hb dX6_product_5 hl (by decide) rfl (fun ls hl => ?_)
  refine lv_aload_n hx hb dX6_product_7 rfl (lv_at hl 1 rfl) ?_
  refine lv_iload_n hx hb dX6_product_8 rfl (lv_at hl 4 rfl) ?_
  exact t_V (As := [.int x]) (rest := []) S hK hX (x_X6_vendorNumbered l hlS E A o z x hI h1) gX6_product_X6_vendorNumbered rfl hd_X6_vendorNumbered ⟨rfl, rfl⟩ ⟨Nat.le_of_ble_eq_true rfl, Nat.le_of_ble_eq_true rfl⟩ (k_recv hK hP0 rfl) ⟨hP0, hP1⟩ rfl hl.1 rfl (Nat.le_of_ble_eq_true rfl) dX6_product_9 ⟨Nat.le_of_ble_eq_true rfl, Nat.le_of_ble_eq_true rfl⟩ hout hlk
def rx_X6_product_3 : Room := { frames := 7, cells := 1, slots := 6, locals := 104 }
set_option maxHeartbeats 4000000 in
set_option maxRecDepth 100000 in
theorem x_X6_product_3 (l : Launch) (hlS : l.stackTraces = false) (E : ke_E) (A : Nat → Prop) (o : Nat) (z : Nat → Int32) (q : Nat) (y : Int32) (v : Nat) (hI : iv z) (hq6 : q < 6) (hv4 : v < 4) (h1 : ¬ (nI 1 ≤ y ∧ y ≤ nI 9999)) : tM l yX6_product wsX6_product rx_X6_product_3 E A [.ref o, .int (nI q), .int y, .int (nI v)] (fun H => gg E o H ∧ dz E (o + 1) z H) "java/lang/IllegalArgumentException" := by
  refine t_hd (cc := cX6_product) (maxL := 6) (ret := (some .int)) (by decide) rfl (Nat.le_of_ble_eq_true rfl) ?_
  intro p e s m below meth c ls S hlk hout hK hX hP hl
  have hx := S.1
  have hb := S.2.1
  have hts := S.2.2.2.2
  obtain ⟨hP0, hP1⟩ := hP
  have hl : lv_has ls 6 [(0, .ref o), (1, .int (nI q)), (2, .int y), (3, .int (nI v))] := hl
  have hc20 := iv_c hI
  refine lv_aload_n hx hb dX6_product_0 rfl (lv_at hl 0 rfl) ?_
  refine lv_iload_n hx hb dX6_product_1 rfl (lv_at hl 1 rfl) ?_
  refine k_V (As := [.int (nI q)]) (rest := []) S hK (c_X6_productNumbered l E o z q hI hq6) gX6_product_X6_productNumbered rfl hd_X6_productNumbered ⟨rfl, rfl⟩ ⟨Nat.le_of_ble_eq_true rfl, Nat.le_of_ble_eq_true rfl⟩ (k_recv hK hP0 rfl) ⟨hP0, hP1⟩ rfl hl.1 rfl (Nat.le_of_ble_eq_true rfl) dX6_product_2 ⟨Nat.le_of_ble_eq_true rfl, Nat.le_of_ble_eq_true rfl⟩ ?_
  refine lv_astore (lv' := [(4, .ref (o + 1 + q + 5)), (0, .ref o), (1, .int (nI q)), (2, .int y), (3, .int (nI v))]) hx hb dX6_product_5 hl (by decide) rfl (fun ls hl => ?_)
  refine lv_aload_n hx hb dX6_product_7 rfl (lv_at hl 1 rfl) ?_
  refine lv_iload_n hx hb dX6_product_8 rfl (lv_at hl 4 rfl) ?_
  refine k_V (As := [.int (nI v)]) (rest := []) S hK (c_X6_vendorNumbered l E o z v hI hv4) gX6_product_X6_vendorNumbered rfl hd_X6_vendorNumbered ⟨rfl, rfl⟩ ⟨Nat.le_of_ble_eq_true rfl, Nat.le_of_ble_eq_true rfl⟩ (k_recv hK hP0 rfl) ⟨hP0, hP1⟩ rfl hl.1 rfl (Nat.le_of_ble_eq_true rfl) dX6_product_9 ⟨Nat.le_of_ble_eq_true rfl, Nat.le_of_ble_eq_true rfl⟩ ?_
  refine lv_pop hx hb dX6_product_12 rfl ?_
  refine lv_iload_n hx hb dX6_product_13 rfl (lv_at hl 3 rfl) ?_
  refine lv_iconst (v := nI 1) hx hb dX6_product_14 (by decide) ?_
  refine lv_sipush (v := nI 9999) hx hb dX6_product_15 (by decide) ?_
  exact t_S (As := [.int y, .int (nI 1), .int (nI 9999)]) (rest := []) S hK hX (x_X6_requireRange l hlS E A 1 9999 y h1) gX6_product_X6_requireRange rfl hd_X6_requireRange ⟨rfl, rfl⟩ ⟨Nat.le_of_ble_eq_true rfl, Nat.le_of_ble_eq_true rfl⟩ trivial rfl hl.1 rfl (Nat.le_of_ble_eq_true rfl) dX6_product_18 ⟨Nat.le_of_ble_eq_true rfl, Nat.le_of_ble_eq_true rfl⟩ hout hlk
def rx_X6_recall_1 : Room := { frames := 7, cells := 1, slots := 6, locals := 103 }
set_option maxHeartbeats 4000000 in
set_option maxRecDepth 100000 in
theorem x_X6_recall_1 (l : Launch) (hlS : l.stackTraces = false) (E : ke_E) (A : Nat → Prop) (o : Nat) (z : Nat → Int32) (x : Int32) (y : Int32) (hI : iv z) (h1 : ¬ inR x 6) : tM l yX6_recall wsX6_recall rx_X6_recall_1 E A [.ref o, .int x, .int y] (fun H => gg E o H ∧ dz E (o + 1) z H) "java/lang/IndexOutOfBoundsException" := by
  refine t_hd (cc := cX6_recall) (maxL := 4) (ret := (some .int)) (by decide) rfl (Nat.le_of_ble_eq_true rfl) ?_
  intro p e s m below meth c ls S hlk hout hK hX hP hl
  have hx := S.1
  have hb := S.2.1
  have hts := S.2.2.2.2
  obtain ⟨hP0, hP1⟩ := hP
  have hl : lv_has ls 4 [(0, .ref o), (1, .int x), (2, .int y)] := hl
  have hc20 := iv_c hI
  refine lv_aload_n hx hb dX6_recall_0 rfl (lv_at hl 0 rfl) ?_
  refine lv_iload_n hx hb dX6_recall_1 rfl (lv_at hl 1 rfl) ?_
  exact t_V (As := [.int x]) (rest := []) S hK hX (x_X6_productNumbered l hlS E A o z x hI h1) gX6_recall_X6_productNumbered rfl hd_X6_productNumbered ⟨rfl, rfl⟩ ⟨Nat.le_of_ble_eq_true rfl, Nat.le_of_ble_eq_true rfl⟩ (k_recv hK hP0 rfl) ⟨hP0, hP1⟩ rfl hl.1 rfl (Nat.le_of_ble_eq_true rfl) dX6_recall_2 ⟨Nat.le_of_ble_eq_true rfl, Nat.le_of_ble_eq_true rfl⟩ hout hlk
def rx_X6_agree_1 : Room := { frames := 7, cells := 1, slots := 6, locals := 103 }
set_option maxHeartbeats 4000000 in
set_option maxRecDepth 100000 in
theorem x_X6_agree_1 (l : Launch) (hlS : l.stackTraces = false) (E : ke_E) (A : Nat → Prop) (o : Nat) (z : Nat → Int32) (x : Int32) (y : Int32) (w : Int32) (hI : iv z) (h1 : ¬ inR x 4) : tM l yX6_agree wsX6_agree rx_X6_agree_1 E A [.ref o, .int x, .int y, .int w] (fun H => gg E o H ∧ dz E (o + 1) z H) "java/lang/IndexOutOfBoundsException" := by
  refine t_hd (cc := cX6_agree) (maxL := 6) (ret := (some .int)) (by decide) rfl (Nat.le_of_ble_eq_true rfl) ?_
  intro p e s m below meth c ls S hlk hout hK hX hP hl
  have hx := S.1
  have hb := S.2.1
  have hts := S.2.2.2.2
  obtain ⟨hP0, hP1⟩ := hP
  have hl : lv_has ls 6 [(0, .ref o), (1, .int x), (2, .int y), (3, .int w)] := hl
  have hc20 := iv_c hI
  refine lv_aload_n hx hb dX6_agree_0 rfl (lv_at hl 0 rfl) ?_
  refine lv_iload_n hx hb dX6_agree_1 rfl (lv_at hl 1 rfl) ?_
  exact t_V (As := [.int x]) (rest := []) S hK hX (x_X6_vendorNumbered l hlS E A o z x hI h1) gX6_agree_X6_vendorNumbered rfl hd_X6_vendorNumbered ⟨rfl, rfl⟩ ⟨Nat.le_of_ble_eq_true rfl, Nat.le_of_ble_eq_true rfl⟩ (k_recv hK hP0 rfl) ⟨hP0, hP1⟩ rfl hl.1 rfl (Nat.le_of_ble_eq_true rfl) dX6_agree_2 ⟨Nat.le_of_ble_eq_true rfl, Nat.le_of_ble_eq_true rfl⟩ hout hlk
def rx_X6_agree_2 : Room := { frames := 6, cells := 1, slots := 6, locals := 82 }
set_option maxHeartbeats 4000000 in
set_option maxRecDepth 100000 in
theorem x_X6_agree_2 (l : Launch) (hlS : l.stackTraces = false) (E : ke_E) (A : Nat → Prop) (o : Nat) (z : Nat → Int32) (v : Nat) (x : Int32) (y : Int32) (hI : iv z) (hv4 : v < 4) (h1 : ¬ inR x 4) : tM l yX6_agree wsX6_agree rx_X6_agree_2 E A [.ref o, .int (nI v), .int x, .int y] (fun H => gg E o H ∧ dz E (o + 1) z H) "java/lang/IndexOutOfBoundsException" := by
  refine t_hd (cc := cX6_agree) (maxL := 6) (ret := (some .int)) (by decide) rfl (Nat.le_of_ble_eq_true rfl) ?_
  intro p e s m below meth c ls S hlk hout hK hX hP hl
  have hx := S.1
  have hb := S.2.1
  have hts := S.2.2.2.2
  obtain ⟨hP0, hP1⟩ := hP
  have hl : lv_has ls 6 [(0, .ref o), (1, .int (nI v)), (2, .int x), (3, .int y)] := hl
  have hc20 := iv_c hI
  refine lv_aload_n hx hb dX6_agree_0 rfl (lv_at hl 0 rfl) ?_
  refine lv_iload_n hx hb dX6_agree_1 rfl (lv_at hl 1 rfl) ?_
  refine k_V (As := [.int (nI v)]) (rest := []) S hK (c_X6_vendorNumbered l E o z v hI hv4) gX6_agree_X6_vendorNumbered rfl hd_X6_vendorNumbered ⟨rfl, rfl⟩ ⟨Nat.le_of_ble_eq_true rfl, Nat.le_of_ble_eq_true rfl⟩ (k_recv hK hP0 rfl) ⟨hP0, hP1⟩ rfl hl.1 rfl (Nat.le_of_ble_eq_true rfl) dX6_agree_2 ⟨Nat.le_of_ble_eq_true rfl, Nat.le_of_ble_eq_true rfl⟩ ?_
  refine lv_astore (lv' := [(4, .ref (o + 1 + 2*v + 11)), (0, .ref o), (1, .int (nI v)), (2, .int x), (3, .int y)]) hx hb dX6_agree_5 hl (by decide) rfl (fun ls hl => ?_)
  refine lv_iload_n hx hb dX6_agree_7 rfl (lv_at hl 3 rfl) ?_
  refine lv_aload hx hb dX6_agree_8 (lv_at hl 0 rfl) ?_
  refine k_get S hK (dz_v hP1 v hv4) rfl (fun _ h => List.mem_cons_of_mem _ (List.mem_append_left _ (List.mem_append_left _ (List.mem_append_left _ (List.mem_append_left _ (List.mem_append_left _ (List.mem_append_left _ (List.mem_append_left _ (List.mem_append_right _ (h)))))))))) 0 (by decide) (List.mem_cons_of_mem _ (List.mem_append_left _ (List.mem_append_left _ (List.mem_append_left _ (List.mem_append_left _ (List.mem_append_left _ (List.mem_append_left _ (List.mem_append_left _ (List.mem_append_left _ (List.mem_append_left _ (List.mem_of_getElem? (i := 2) rfl))))))))))) rfl (v := .ref (o + 1 + 2*v + 12)) rfl dX6_agree_10 ?_
  refine k_alen hx hb hK (t := 0) rfl (dz_ag hP1 v hv4) dX6_agree_13 ?_
  refine k_top (y := nI 4) rfl ?_
  refine k_S (As := [.int x, .int (nI 4)]) (rest := []) S hK (c_X6_isIndex l E x 4 (by omega)) gX6_agree_X6_isIndex rfl hd_X6_isIndex ⟨rfl, rfl⟩ ⟨Nat.le_of_ble_eq_true rfl, Nat.le_of_ble_eq_true rfl⟩ trivial rfl hl.1 rfl (Nat.le_of_ble_eq_true rfl) dX6_agree_14 ⟨Nat.le_of_ble_eq_true rfl, Nat.le_of_ble_eq_true rfl⟩ ?_
  refine b_ne (tgt := 30) hx hb dX6_agree_17 (by decide) (fun h => absurd h h1) (fun c17 => ?_)
  exact t_thS0 hlS S hX (List.mem_of_getElem? (i := 0) rfl) (List.mem_cons_of_mem _ (List.mem_append_left _ (List.mem_append_left _ (List.mem_append_left _ (List.mem_append_left _ (List.mem_append_left _ (List.mem_append_left _ (List.mem_append_left _ (List.mem_append_left _ (List.mem_append_left _ (List.mem_of_getElem? (i := 0) rfl))))))))))) (List.mem_cons_of_mem _ (List.mem_append_left _ (List.mem_append_left _ (List.mem_append_left _ (List.mem_append_left _ (List.mem_append_left _ (List.mem_append_left _ (List.mem_append_left _ (List.mem_append_left _ (List.mem_append_left _ (List.mem_of_getElem? (i := 1) rfl))))))))))) (fun _ h => List.mem_cons_of_mem _ (List.mem_append_left _ (List.mem_append_right _ (h)))) hl.1 hlk hout dX6_agree_20 dX6_agree_23 dX6_agree_24 dX6_agree_26 dX6_agree_29 ⟨Nat.le_of_ble_eq_true rfl, Nat.le_of_ble_eq_true rfl, Nat.le_of_ble_eq_true rfl, Nat.le_of_ble_eq_true rfl⟩
def rx_X6_agree_3 : Room := { frames := 7, cells := 1, slots := 6, locals := 104 }
set_option maxHeartbeats 4000000 in
set_option maxRecDepth 100000 in
theorem x_X6_agree_3 (l : Launch) (hlS : l.stackTraces = false) (E : ke_E) (A : Nat → Prop) (o : Nat) (z : Nat → Int32) (v : Nat) (k : Nat) (y : Int32) (hI : iv z) (hv4 : v < 4) (hk4 : k < 4) (h1 : ¬ (nI 0 ≤ y ∧ y ≤ nI 100)) : tM l yX6_agree wsX6_agree rx_X6_agree_3 E A [.ref o, .int (nI v), .int (nI k), .int y] (fun H => gg E o H ∧ dz E (o + 1) z H) "java/lang/IllegalArgumentException" := by
  refine t_hd (cc := cX6_agree) (maxL := 6) (ret := (some .int)) (by decide) rfl (Nat.le_of_ble_eq_true rfl) ?_
  intro p e s m below meth c ls S hlk hout hK hX hP hl
  have hx := S.1
  have hb := S.2.1
  have hts := S.2.2.2.2
  obtain ⟨hP0, hP1⟩ := hP
  have hl : lv_has ls 6 [(0, .ref o), (1, .int (nI v)), (2, .int (nI k)), (3, .int y)] := hl
  have hc20 := iv_c hI
  refine lv_aload_n hx hb dX6_agree_0 rfl (lv_at hl 0 rfl) ?_
  refine lv_iload_n hx hb dX6_agree_1 rfl (lv_at hl 1 rfl) ?_
  refine k_V (As := [.int (nI v)]) (rest := []) S hK (c_X6_vendorNumbered l E o z v hI hv4) gX6_agree_X6_vendorNumbered rfl hd_X6_vendorNumbered ⟨rfl, rfl⟩ ⟨Nat.le_of_ble_eq_true rfl, Nat.le_of_ble_eq_true rfl⟩ (k_recv hK hP0 rfl) ⟨hP0, hP1⟩ rfl hl.1 rfl (Nat.le_of_ble_eq_true rfl) dX6_agree_2 ⟨Nat.le_of_ble_eq_true rfl, Nat.le_of_ble_eq_true rfl⟩ ?_
  refine lv_astore (lv' := [(4, .ref (o + 1 + 2*v + 11)), (0, .ref o), (1, .int (nI v)), (2, .int (nI k)), (3, .int y)]) hx hb dX6_agree_5 hl (by decide) rfl (fun ls hl => ?_)
  refine lv_iload_n hx hb dX6_agree_7 rfl (lv_at hl 3 rfl) ?_
  refine lv_aload hx hb dX6_agree_8 (lv_at hl 0 rfl) ?_
  refine k_get S hK (dz_v hP1 v hv4) rfl (fun _ h => List.mem_cons_of_mem _ (List.mem_append_left _ (List.mem_append_left _ (List.mem_append_left _ (List.mem_append_left _ (List.mem_append_left _ (List.mem_append_left _ (List.mem_append_left _ (List.mem_append_right _ (h)))))))))) 0 (by decide) (List.mem_cons_of_mem _ (List.mem_append_left _ (List.mem_append_left _ (List.mem_append_left _ (List.mem_append_left _ (List.mem_append_left _ (List.mem_append_left _ (List.mem_append_left _ (List.mem_append_left _ (List.mem_append_left _ (List.mem_of_getElem? (i := 2) rfl))))))))))) rfl (v := .ref (o + 1 + 2*v + 12)) rfl dX6_agree_10 ?_
  refine k_alen hx hb hK (t := 0) rfl (dz_ag hP1 v hv4) dX6_agree_13 ?_
  refine k_top (y := nI 4) rfl ?_
  refine k_S (As := [.int (nI k), .int (nI 4)]) (rest := []) S hK (c_X6_isIndex_n l E k 4 (by omega) (by omega)) gX6_agree_X6_isIndex rfl hd_X6_isIndex ⟨rfl, rfl⟩ ⟨Nat.le_of_ble_eq_true rfl, Nat.le_of_ble_eq_true rfl⟩ trivial rfl hl.1 rfl (Nat.le_of_ble_eq_true rfl) dX6_agree_14 ⟨Nat.le_of_ble_eq_true rfl, Nat.le_of_ble_eq_true rfl⟩ ?_
  refine b_ne (tgt := 30) hx hb dX6_agree_17 (by decide) (fun c17 => ?_) (fun h => absurd hk4 h)
  refine lv_iload_n hx hb dX6_agree_30 rfl (lv_at hl 4 rfl) ?_
  refine lv_iconst (v := nI 0) hx hb dX6_agree_31 (by decide) ?_
  refine lv_bipush (v := nI 100) hx hb dX6_agree_32 (by decide) ?_
  exact t_S (As := [.int y, .int (nI 0), .int (nI 100)]) (rest := []) S hK hX (x_X6_requireRange l hlS E A 0 100 y h1) gX6_agree_X6_requireRange rfl hd_X6_requireRange ⟨rfl, rfl⟩ ⟨Nat.le_of_ble_eq_true rfl, Nat.le_of_ble_eq_true rfl⟩ trivial rfl hl.1 rfl (Nat.le_of_ble_eq_true rfl) dX6_agree_34 ⟨Nat.le_of_ble_eq_true rfl, Nat.le_of_ble_eq_true rfl⟩ hout hlk
def rx_X6_limit_1 : Room := { frames := 7, cells := 1, slots := 6, locals := 103 }
set_option maxHeartbeats 4000000 in
set_option maxRecDepth 100000 in
theorem x_X6_limit_1 (l : Launch) (hlS : l.stackTraces = false) (E : ke_E) (A : Nat → Prop) (o : Nat) (z : Nat → Int32) (x : Int32) (y : Int32) (hI : iv z) (h1 : ¬ inR x 4) : tM l yX6_limit wsX6_limit rx_X6_limit_1 E A [.ref o, .int x, .int y] (fun H => gg E o H ∧ dz E (o + 1) z H) "java/lang/IndexOutOfBoundsException" := by
  refine t_hd (cc := cX6_limit) (maxL := 5) (ret := (some .int)) (by decide) rfl (Nat.le_of_ble_eq_true rfl) ?_
  intro p e s m below meth c ls S hlk hout hK hX hP hl
  have hx := S.1
  have hb := S.2.1
  have hts := S.2.2.2.2
  obtain ⟨hP0, hP1⟩ := hP
  have hl : lv_has ls 5 [(0, .ref o), (1, .int x), (2, .int y)] := hl
  have hc20 := iv_c hI
  refine lv_aload_n hx hb dX6_limit_0 rfl (lv_at hl 0 rfl) ?_
  refine lv_iload_n hx hb dX6_limit_1 rfl (lv_at hl 1 rfl) ?_
  exact t_V (As := [.int x]) (rest := []) S hK hX (x_X6_vendorNumbered l hlS E A o z x hI h1) gX6_limit_X6_vendorNumbered rfl hd_X6_vendorNumbered ⟨rfl, rfl⟩ ⟨Nat.le_of_ble_eq_true rfl, Nat.le_of_ble_eq_true rfl⟩ (k_recv hK hP0 rfl) ⟨hP0, hP1⟩ rfl hl.1 rfl (Nat.le_of_ble_eq_true rfl) dX6_limit_2 ⟨Nat.le_of_ble_eq_true rfl, Nat.le_of_ble_eq_true rfl⟩ hout hlk
def rx_X6_limit_2 : Room := { frames := 7, cells := 1, slots := 6, locals := 104 }
set_option maxHeartbeats 4000000 in
set_option maxRecDepth 100000 in
theorem x_X6_limit_2 (l : Launch) (hlS : l.stackTraces = false) (E : ke_E) (A : Nat → Prop) (o : Nat) (z : Nat → Int32) (v : Nat) (y : Int32) (hI : iv z) (hv4 : v < 4) (h1 : ¬ (nI 0 ≤ y ∧ y ≤ nI 99999)) : tM l yX6_limit wsX6_limit rx_X6_limit_2 E A [.ref o, .int (nI v), .int y] (fun H => gg E o H ∧ dz E (o + 1) z H) "java/lang/IllegalArgumentException" := by
  refine t_hd (cc := cX6_limit) (maxL := 5) (ret := (some .int)) (by decide) rfl (Nat.le_of_ble_eq_true rfl) ?_
  intro p e s m below meth c ls S hlk hout hK hX hP hl
  have hx := S.1
  have hb := S.2.1
  have hts := S.2.2.2.2
  obtain ⟨hP0, hP1⟩ := hP
  have hl : lv_has ls 5 [(0, .ref o), (1, .int (nI v)), (2, .int y)] := hl
  have hc20 := iv_c hI
  refine lv_aload_n hx hb dX6_limit_0 rfl (lv_at hl 0 rfl) ?_
  refine lv_iload_n hx hb dX6_limit_1 rfl (lv_at hl 1 rfl) ?_
  refine k_V (As := [.int (nI v)]) (rest := []) S hK (c_X6_vendorNumbered l E o z v hI hv4) gX6_limit_X6_vendorNumbered rfl hd_X6_vendorNumbered ⟨rfl, rfl⟩ ⟨Nat.le_of_ble_eq_true rfl, Nat.le_of_ble_eq_true rfl⟩ (k_recv hK hP0 rfl) ⟨hP0, hP1⟩ rfl hl.1 rfl (Nat.le_of_ble_eq_true rfl) dX6_limit_2 ⟨Nat.le_of_ble_eq_true rfl, Nat.le_of_ble_eq_true rfl⟩ ?_
  refine lv_astore_n (lv' := [(3, .ref (o + 1 + 2*v + 11)), (0, .ref o), (1, .int (nI v)), (2, .int y)]) hx hb dX6_limit_5 rfl hl (by decide) rfl (fun ls hl => ?_)
  refine lv_iload_n hx hb dX6_limit_6 rfl (lv_at hl 3 rfl) ?_
  refine lv_iconst (v := nI 0) hx hb dX6_limit_7 (by decide) ?_
  refine lv_ldc (v := nI 99999) hx hb S.2.2.2.1 (hts _ (List.mem_cons_of_mem _ (List.mem_append_left _ (List.mem_append_left _ (List.mem_append_left _ (List.mem_append_left _ (List.mem_append_left _ (List.mem_append_left _ (List.mem_append_left _ (List.mem_append_left _ (List.mem_append_left _ (List.mem_of_getElem? (i := 0) rfl)))))))))))) dX6_limit_8 ?_
  exact t_S (As := [.int y, .int (nI 0), .int (nI 99999)]) (rest := []) S hK hX (x_X6_requireRange l hlS E A 0 99999 y h1) gX6_limit_X6_requireRange rfl hd_X6_requireRange ⟨rfl, rfl⟩ ⟨Nat.le_of_ble_eq_true rfl, Nat.le_of_ble_eq_true rfl⟩ trivial rfl hl.1 rfl (Nat.le_of_ble_eq_true rfl) dX6_limit_10 ⟨Nat.le_of_ble_eq_true rfl, Nat.le_of_ble_eq_true rfl⟩ hout hlk
def rx_X6_set_1 : Room := { frames := 6, cells := 1, slots := 6, locals := 82 }
set_option maxHeartbeats 4000000 in
set_option maxRecDepth 100000 in
theorem x_X6_set_1 (l : Launch) (hlS : l.stackTraces = false) (E : ke_E) (A : Nat → Prop) (o : Nat) (z : Nat → Int32) (x : Int32) (y : Int32) (hI : iv z) (h1 : ¬ inR x 5) : tM l yX6_set wsX6_set rx_X6_set_1 E A [.ref o, .int x, .int y] (fun H => gg E o H ∧ dz E (o + 1) z H) "java/lang/IndexOutOfBoundsException" := by
  refine t_hd (cc := cX6_set) (maxL := 4) (ret := (some .int)) (by decide) rfl (Nat.le_of_ble_eq_true rfl) ?_
  intro p e s m below meth c ls S hlk hout hK hX hP hl
  have hx := S.1
  have hb := S.2.1
  have hts := S.2.2.2.2
  obtain ⟨hP0, hP1⟩ := hP
  have hl : lv_has ls 4 [(0, .ref o), (1, .int x), (2, .int y)] := hl
  have hc20 := iv_c hI
  refine lv_iload_n hx hb dX6_set_0 rfl (lv_at hl 1 rfl) ?_
  refine lv_aload_n hx hb dX6_set_1 rfl (lv_at hl 0 rfl) ?_
  refine k_get S hK hP0 rfl (fun _ h => List.mem_cons_of_mem _ (List.mem_append_left _ (List.mem_append_left _ (List.mem_append_left _ (List.mem_append_left _ (List.mem_append_left _ (List.mem_append_left _ (List.mem_append_left _ (List.mem_append_right _ (h)))))))))) 0 (by decide) (List.mem_cons_of_mem _ (List.mem_append_left _ (List.mem_append_left _ (List.mem_append_left _ (List.mem_append_left _ (List.mem_append_left _ (List.mem_append_left _ (List.mem_append_left _ (List.mem_append_left _ (List.mem_append_left _ (List.mem_of_getElem? (i := 2) rfl))))))))))) rfl (v := .ref (o + 1)) rfl dX6_set_2 ?_
  refine k_get S hK (dz_d hP1) rfl (fun _ h => List.mem_cons_of_mem _ (List.mem_append_left _ (List.mem_append_left _ (List.mem_append_left _ (List.mem_append_left _ (List.mem_append_left _ (List.mem_append_left _ (List.mem_append_right _ (h))))))))) 3 (by decide) (List.mem_cons_of_mem _ (List.mem_append_left _ (List.mem_append_left _ (List.mem_append_left _ (List.mem_append_left _ (List.mem_append_left _ (List.mem_append_left _ (List.mem_append_left _ (List.mem_append_left _ (List.mem_append_left _ (List.mem_of_getElem? (i := 3) rfl))))))))))) rfl (v := .ref (o + 1 + 4)) rfl dX6_set_5 ?_
  refine k_alen hx hb hK (t := 0) rfl (dz_st hP1) dX6_set_8 ?_
  refine k_top (y := nI 5) rfl ?_
  refine k_S (As := [.int x, .int (nI 5)]) (rest := []) S hK (c_X6_isIndex l E x 5 (by omega)) gX6_set_X6_isIndex rfl hd_X6_isIndex ⟨rfl, rfl⟩ ⟨Nat.le_of_ble_eq_true rfl, Nat.le_of_ble_eq_true rfl⟩ trivial rfl hl.1 rfl (Nat.le_of_ble_eq_true rfl) dX6_set_9 ⟨Nat.le_of_ble_eq_true rfl, Nat.le_of_ble_eq_true rfl⟩ ?_
  refine b_ne (tgt := 25) hx hb dX6_set_12 (by decide) (fun h => absurd h h1) (fun c12 => ?_)
  exact t_thS0 hlS S hX (List.mem_of_getElem? (i := 1) rfl) (List.mem_cons_of_mem _ (List.mem_append_left _ (List.mem_append_left _ (List.mem_append_left _ (List.mem_append_left _ (List.mem_append_left _ (List.mem_append_left _ (List.mem_append_left _ (List.mem_append_left _ (List.mem_append_left _ (List.mem_of_getElem? (i := 0) rfl))))))))))) (List.mem_cons_of_mem _ (List.mem_append_left _ (List.mem_append_left _ (List.mem_append_left _ (List.mem_append_left _ (List.mem_append_left _ (List.mem_append_left _ (List.mem_append_left _ (List.mem_append_left _ (List.mem_append_left _ (List.mem_of_getElem? (i := 1) rfl))))))))))) (fun _ h => List.mem_cons_of_mem _ (List.mem_append_left _ (List.mem_append_right _ (h)))) hl.1 hlk hout dX6_set_15 dX6_set_18 dX6_set_19 dX6_set_21 dX6_set_24 ⟨Nat.le_of_ble_eq_true rfl, Nat.le_of_ble_eq_true rfl, Nat.le_of_ble_eq_true rfl, Nat.le_of_ble_eq_true rfl⟩
def rx_X6_set_2 : Room := { frames := 7, cells := 1, slots := 6, locals := 104 }
set_option maxHeartbeats 4000000 in
set_option maxRecDepth 100000 in
theorem x_X6_set_2 (l : Launch) (hlS : l.stackTraces = false) (E : ke_E) (A : Nat → Prop) (o : Nat) (z : Nat → Int32) (k : Nat) (y : Int32) (hI : iv z) (hk : k < 5) (h1 : ¬ ms k y) : tM l yX6_set wsX6_set rx_X6_set_2 E A [.ref o, .int (nI k), .int y] (fun H => gg E o H ∧ dz E (o + 1) z H) "java/lang/IllegalArgumentException" := by
  refine t_hd (cc := cX6_set) (maxL := 4) (ret := (some .int)) (by decide) rfl (Nat.le_of_ble_eq_true rfl) ?_
  intro p e s m below meth c ls S hlk hout hK hX hP hl
  have hx := S.1
  have hb := S.2.1
  have hts := S.2.2.2.2
  obtain ⟨hP0, hP1⟩ := hP
  have hl : lv_has ls 4 [(0, .ref o), (1, .int (nI k)), (2, .int y)] := hl
  have hc20 := iv_c hI
  rcases (by omega : k = 0 ∨ k = 1 ∨ k = 2 ∨ k = 3 ∨ k = 4) with rfl | rfl | rfl | rfl | rfl
  · have hl : lv_has ls 4 [(0, .ref o), (1, .int (nI 0)), (2, .int y)] := hl
    refine lv_iload_n hx hb dX6_set_0 rfl (lv_at hl 1 rfl) ?_
    refine lv_aload_n hx hb dX6_set_1 rfl (lv_at hl 0 rfl) ?_
    refine k_get S hK hP0 rfl (fun _ h => List.mem_cons_of_mem _ (List.mem_append_left _ (List.mem_append_left _ (List.mem_append_left _ (List.mem_append_left _ (List.mem_append_left _ (List.mem_append_left _ (List.mem_append_left _ (List.mem_append_right _ (h)))))))))) 0 (by decide) (List.mem_cons_of_mem _ (List.mem_append_left _ (List.mem_append_left _ (List.mem_append_left _ (List.mem_append_left _ (List.mem_append_left _ (List.mem_append_left _ (List.mem_append_left _ (List.mem_append_left _ (List.mem_append_left _ (List.mem_of_getElem? (i := 2) rfl))))))))))) rfl (v := .ref (o + 1)) rfl dX6_set_2 ?_
    refine k_get S hK (dz_d hP1) rfl (fun _ h => List.mem_cons_of_mem _ (List.mem_append_left _ (List.mem_append_left _ (List.mem_append_left _ (List.mem_append_left _ (List.mem_append_left _ (List.mem_append_left _ (List.mem_append_right _ (h))))))))) 3 (by decide) (List.mem_cons_of_mem _ (List.mem_append_left _ (List.mem_append_left _ (List.mem_append_left _ (List.mem_append_left _ (List.mem_append_left _ (List.mem_append_left _ (List.mem_append_left _ (List.mem_append_left _ (List.mem_append_left _ (List.mem_of_getElem? (i := 3) rfl))))))))))) rfl (v := .ref (o + 1 + 4)) rfl dX6_set_5 ?_
    refine k_alen hx hb hK (t := 0) rfl (dz_st hP1) dX6_set_8 ?_
    refine k_top (y := nI 5) rfl ?_
    refine k_S (As := [.int (nI 0), .int (nI 5)]) (rest := []) S hK (c_X6_isIndex_n l E 0 5 (by omega) (by omega)) gX6_set_X6_isIndex rfl hd_X6_isIndex ⟨rfl, rfl⟩ ⟨Nat.le_of_ble_eq_true rfl, Nat.le_of_ble_eq_true rfl⟩ trivial rfl hl.1 rfl (Nat.le_of_ble_eq_true rfl) dX6_set_9 ⟨Nat.le_of_ble_eq_true rfl, Nat.le_of_ble_eq_true rfl⟩ ?_
    refine b_ne (tgt := 25) hx hb dX6_set_12 (by decide) (fun c12 => ?_) (fun h => absurd (by omega) h)
    refine lv_iload_n hx hb dX6_set_25 rfl (lv_at hl 2 rfl) ?_
    refine lv_iload_n hx hb dX6_set_26 rfl (lv_at hl 1 rfl) ?_
    refine k_S (As := [.int (nI 0)]) (rest := [.int y]) S hK (c_X6_lowestValue_0 l E) gX6_set_X6_lowestValue rfl hd_X6_lowestValue ⟨rfl, rfl⟩ ⟨Nat.le_of_ble_eq_true rfl, Nat.le_of_ble_eq_true rfl⟩ trivial rfl hl.1 rfl (Nat.le_of_ble_eq_true rfl) dX6_set_27 ⟨Nat.le_of_ble_eq_true rfl, Nat.le_of_ble_eq_true rfl⟩ ?_
    refine lv_iload_n hx hb dX6_set_30 rfl (lv_at hl 1 rfl) ?_
    refine k_S (As := [.int (nI 0)]) (rest := [.int (nI 0), .int y]) S hK (c_X6_highestValue_0 l E) gX6_set_X6_highestValue rfl hd_X6_highestValue ⟨rfl, rfl⟩ ⟨Nat.le_of_ble_eq_true rfl, Nat.le_of_ble_eq_true rfl⟩ trivial rfl hl.1 rfl (Nat.le_of_ble_eq_true rfl) dX6_set_31 ⟨Nat.le_of_ble_eq_true rfl, Nat.le_of_ble_eq_true rfl⟩ ?_
    exact t_S (As := [.int y, .int (nI 0), .int (nI 36)]) (rest := []) S hK hX (x_X6_requireRange l hlS E A 0 36 y (fun q => h1 ((ms_a (by omega)).mp q))) gX6_set_X6_requireRange rfl hd_X6_requireRange ⟨rfl, rfl⟩ ⟨Nat.le_of_ble_eq_true rfl, Nat.le_of_ble_eq_true rfl⟩ trivial rfl hl.1 rfl (Nat.le_of_ble_eq_true rfl) dX6_set_34 ⟨Nat.le_of_ble_eq_true rfl, Nat.le_of_ble_eq_true rfl⟩ hout hlk
  · have hl : lv_has ls 4 [(0, .ref o), (1, .int (nI 1)), (2, .int y)] := hl
    refine lv_iload_n hx hb dX6_set_0 rfl (lv_at hl 1 rfl) ?_
    refine lv_aload_n hx hb dX6_set_1 rfl (lv_at hl 0 rfl) ?_
    refine k_get S hK hP0 rfl (fun _ h => List.mem_cons_of_mem _ (List.mem_append_left _ (List.mem_append_left _ (List.mem_append_left _ (List.mem_append_left _ (List.mem_append_left _ (List.mem_append_left _ (List.mem_append_left _ (List.mem_append_right _ (h)))))))))) 0 (by decide) (List.mem_cons_of_mem _ (List.mem_append_left _ (List.mem_append_left _ (List.mem_append_left _ (List.mem_append_left _ (List.mem_append_left _ (List.mem_append_left _ (List.mem_append_left _ (List.mem_append_left _ (List.mem_append_left _ (List.mem_of_getElem? (i := 2) rfl))))))))))) rfl (v := .ref (o + 1)) rfl dX6_set_2 ?_
    refine k_get S hK (dz_d hP1) rfl (fun _ h => List.mem_cons_of_mem _ (List.mem_append_left _ (List.mem_append_left _ (List.mem_append_left _ (List.mem_append_left _ (List.mem_append_left _ (List.mem_append_left _ (List.mem_append_right _ (h))))))))) 3 (by decide) (List.mem_cons_of_mem _ (List.mem_append_left _ (List.mem_append_left _ (List.mem_append_left _ (List.mem_append_left _ (List.mem_append_left _ (List.mem_append_left _ (List.mem_append_left _ (List.mem_append_left _ (List.mem_append_left _ (List.mem_of_getElem? (i := 3) rfl))))))))))) rfl (v := .ref (o + 1 + 4)) rfl dX6_set_5 ?_
    refine k_alen hx hb hK (t := 0) rfl (dz_st hP1) dX6_set_8 ?_
    refine k_top (y := nI 5) rfl ?_
    refine k_S (As := [.int (nI 1), .int (nI 5)]) (rest := []) S hK (c_X6_isIndex_n l E 1 5 (by omega) (by omega)) gX6_set_X6_isIndex rfl hd_X6_isIndex ⟨rfl, rfl⟩ ⟨Nat.le_of_ble_eq_true rfl, Nat.le_of_ble_eq_true rfl⟩ trivial rfl hl.1 rfl (Nat.le_of_ble_eq_true rfl) dX6_set_9 ⟨Nat.le_of_ble_eq_true rfl, Nat.le_of_ble_eq_true rfl⟩ ?_
    refine b_ne (tgt := 25) hx hb dX6_set_12 (by decide) (fun c12 => ?_) (fun h => absurd (by omega) h)
    refine lv_iload_n hx hb dX6_set_25 rfl (lv_at hl 2 rfl) ?_
    refine lv_iload_n hx hb dX6_set_26 rfl (lv_at hl 1 rfl) ?_
    refine k_S (As := [.int (nI 1)]) (rest := [.int y]) S hK (c_X6_lowestValue_1 l E) gX6_set_X6_lowestValue rfl hd_X6_lowestValue ⟨rfl, rfl⟩ ⟨Nat.le_of_ble_eq_true rfl, Nat.le_of_ble_eq_true rfl⟩ trivial rfl hl.1 rfl (Nat.le_of_ble_eq_true rfl) dX6_set_27 ⟨Nat.le_of_ble_eq_true rfl, Nat.le_of_ble_eq_true rfl⟩ ?_
    refine lv_iload_n hx hb dX6_set_30 rfl (lv_at hl 1 rfl) ?_
    refine k_S (As := [.int (nI 1)]) (rest := [.int (nI 0), .int y]) S hK (c_X6_highestValue_1 l E) gX6_set_X6_highestValue rfl hd_X6_highestValue ⟨rfl, rfl⟩ ⟨Nat.le_of_ble_eq_true rfl, Nat.le_of_ble_eq_true rfl⟩ trivial rfl hl.1 rfl (Nat.le_of_ble_eq_true rfl) dX6_set_31 ⟨Nat.le_of_ble_eq_true rfl, Nat.le_of_ble_eq_true rfl⟩ ?_
    exact t_S (As := [.int y, .int (nI 0), .int (nI 36)]) (rest := []) S hK hX (x_X6_requireRange l hlS E A 0 36 y (fun q => h1 ((ms_a (by omega)).mp q))) gX6_set_X6_requireRange rfl hd_X6_requireRange ⟨rfl, rfl⟩ ⟨Nat.le_of_ble_eq_true rfl, Nat.le_of_ble_eq_true rfl⟩ trivial rfl hl.1 rfl (Nat.le_of_ble_eq_true rfl) dX6_set_34 ⟨Nat.le_of_ble_eq_true rfl, Nat.le_of_ble_eq_true rfl⟩ hout hlk
  · have hl : lv_has ls 4 [(0, .ref o), (1, .int (nI 2)), (2, .int y)] := hl
    refine lv_iload_n hx hb dX6_set_0 rfl (lv_at hl 1 rfl) ?_
    refine lv_aload_n hx hb dX6_set_1 rfl (lv_at hl 0 rfl) ?_
    refine k_get S hK hP0 rfl (fun _ h => List.mem_cons_of_mem _ (List.mem_append_left _ (List.mem_append_left _ (List.mem_append_left _ (List.mem_append_left _ (List.mem_append_left _ (List.mem_append_left _ (List.mem_append_left _ (List.mem_append_right _ (h)))))))))) 0 (by decide) (List.mem_cons_of_mem _ (List.mem_append_left _ (List.mem_append_left _ (List.mem_append_left _ (List.mem_append_left _ (List.mem_append_left _ (List.mem_append_left _ (List.mem_append_left _ (List.mem_append_left _ (List.mem_append_left _ (List.mem_of_getElem? (i := 2) rfl))))))))))) rfl (v := .ref (o + 1)) rfl dX6_set_2 ?_
    refine k_get S hK (dz_d hP1) rfl (fun _ h => List.mem_cons_of_mem _ (List.mem_append_left _ (List.mem_append_left _ (List.mem_append_left _ (List.mem_append_left _ (List.mem_append_left _ (List.mem_append_left _ (List.mem_append_right _ (h))))))))) 3 (by decide) (List.mem_cons_of_mem _ (List.mem_append_left _ (List.mem_append_left _ (List.mem_append_left _ (List.mem_append_left _ (List.mem_append_left _ (List.mem_append_left _ (List.mem_append_left _ (List.mem_append_left _ (List.mem_append_left _ (List.mem_of_getElem? (i := 3) rfl))))))))))) rfl (v := .ref (o + 1 + 4)) rfl dX6_set_5 ?_
    refine k_alen hx hb hK (t := 0) rfl (dz_st hP1) dX6_set_8 ?_
    refine k_top (y := nI 5) rfl ?_
    refine k_S (As := [.int (nI 2), .int (nI 5)]) (rest := []) S hK (c_X6_isIndex_n l E 2 5 (by omega) (by omega)) gX6_set_X6_isIndex rfl hd_X6_isIndex ⟨rfl, rfl⟩ ⟨Nat.le_of_ble_eq_true rfl, Nat.le_of_ble_eq_true rfl⟩ trivial rfl hl.1 rfl (Nat.le_of_ble_eq_true rfl) dX6_set_9 ⟨Nat.le_of_ble_eq_true rfl, Nat.le_of_ble_eq_true rfl⟩ ?_
    refine b_ne (tgt := 25) hx hb dX6_set_12 (by decide) (fun c12 => ?_) (fun h => absurd (by omega) h)
    refine lv_iload_n hx hb dX6_set_25 rfl (lv_at hl 2 rfl) ?_
    refine lv_iload_n hx hb dX6_set_26 rfl (lv_at hl 1 rfl) ?_
    refine k_S (As := [.int (nI 2)]) (rest := [.int y]) S hK (c_X6_lowestValue_2 l E) gX6_set_X6_lowestValue rfl hd_X6_lowestValue ⟨rfl, rfl⟩ ⟨Nat.le_of_ble_eq_true rfl, Nat.le_of_ble_eq_true rfl⟩ trivial rfl hl.1 rfl (Nat.le_of_ble_eq_true rfl) dX6_set_27 ⟨Nat.le_of_ble_eq_true rfl, Nat.le_of_ble_eq_true rfl⟩ ?_
    refine lv_iload_n hx hb dX6_set_30 rfl (lv_at hl 1 rfl) ?_
    refine k_S (As := [.int (nI 2)]) (rest := [.int (nI 0), .int y]) S hK (c_X6_highestValue_2 l E) gX6_set_X6_highestValue rfl hd_X6_highestValue ⟨rfl, rfl⟩ ⟨Nat.le_of_ble_eq_true rfl, Nat.le_of_ble_eq_true rfl⟩ trivial rfl hl.1 rfl (Nat.le_of_ble_eq_true rfl) dX6_set_31 ⟨Nat.le_of_ble_eq_true rfl, Nat.le_of_ble_eq_true rfl⟩ ?_
    exact t_S (As := [.int y, .int (nI 0), .int (nI 36)]) (rest := []) S hK hX (x_X6_requireRange l hlS E A 0 36 y (fun q => h1 ((ms_a (by omega)).mp q))) gX6_set_X6_requireRange rfl hd_X6_requireRange ⟨rfl, rfl⟩ ⟨Nat.le_of_ble_eq_true rfl, Nat.le_of_ble_eq_true rfl⟩ trivial rfl hl.1 rfl (Nat.le_of_ble_eq_true rfl) dX6_set_34 ⟨Nat.le_of_ble_eq_true rfl, Nat.le_of_ble_eq_true rfl⟩ hout hlk
  · have hl : lv_has ls 4 [(0, .ref o), (1, .int (nI 3)), (2, .int y)] := hl
    refine lv_iload_n hx hb dX6_set_0 rfl (lv_at hl 1 rfl) ?_
    refine lv_aload_n hx hb dX6_set_1 rfl (lv_at hl 0 rfl) ?_
    refine k_get S hK hP0 rfl (fun _ h => List.mem_cons_of_mem _ (List.mem_append_left _ (List.mem_append_left _ (List.mem_append_left _ (List.mem_append_left _ (List.mem_append_left _ (List.mem_append_left _ (List.mem_append_left _ (List.mem_append_right _ (h)))))))))) 0 (by decide) (List.mem_cons_of_mem _ (List.mem_append_left _ (List.mem_append_left _ (List.mem_append_left _ (List.mem_append_left _ (List.mem_append_left _ (List.mem_append_left _ (List.mem_append_left _ (List.mem_append_left _ (List.mem_append_left _ (List.mem_of_getElem? (i := 2) rfl))))))))))) rfl (v := .ref (o + 1)) rfl dX6_set_2 ?_
    refine k_get S hK (dz_d hP1) rfl (fun _ h => List.mem_cons_of_mem _ (List.mem_append_left _ (List.mem_append_left _ (List.mem_append_left _ (List.mem_append_left _ (List.mem_append_left _ (List.mem_append_left _ (List.mem_append_right _ (h))))))))) 3 (by decide) (List.mem_cons_of_mem _ (List.mem_append_left _ (List.mem_append_left _ (List.mem_append_left _ (List.mem_append_left _ (List.mem_append_left _ (List.mem_append_left _ (List.mem_append_left _ (List.mem_append_left _ (List.mem_append_left _ (List.mem_of_getElem? (i := 3) rfl))))))))))) rfl (v := .ref (o + 1 + 4)) rfl dX6_set_5 ?_
    refine k_alen hx hb hK (t := 0) rfl (dz_st hP1) dX6_set_8 ?_
    refine k_top (y := nI 5) rfl ?_
    refine k_S (As := [.int (nI 3), .int (nI 5)]) (rest := []) S hK (c_X6_isIndex_n l E 3 5 (by omega) (by omega)) gX6_set_X6_isIndex rfl hd_X6_isIndex ⟨rfl, rfl⟩ ⟨Nat.le_of_ble_eq_true rfl, Nat.le_of_ble_eq_true rfl⟩ trivial rfl hl.1 rfl (Nat.le_of_ble_eq_true rfl) dX6_set_9 ⟨Nat.le_of_ble_eq_true rfl, Nat.le_of_ble_eq_true rfl⟩ ?_
    refine b_ne (tgt := 25) hx hb dX6_set_12 (by decide) (fun c12 => ?_) (fun h => absurd (by omega) h)
    refine lv_iload_n hx hb dX6_set_25 rfl (lv_at hl 2 rfl) ?_
    refine lv_iload_n hx hb dX6_set_26 rfl (lv_at hl 1 rfl) ?_
    refine k_S (As := [.int (nI 3)]) (rest := [.int y]) S hK (c_X6_lowestValue_3 l E) gX6_set_X6_lowestValue rfl hd_X6_lowestValue ⟨rfl, rfl⟩ ⟨Nat.le_of_ble_eq_true rfl, Nat.le_of_ble_eq_true rfl⟩ trivial rfl hl.1 rfl (Nat.le_of_ble_eq_true rfl) dX6_set_27 ⟨Nat.le_of_ble_eq_true rfl, Nat.le_of_ble_eq_true rfl⟩ ?_
    refine lv_iload_n hx hb dX6_set_30 rfl (lv_at hl 1 rfl) ?_
    refine k_S (As := [.int (nI 3)]) (rest := [.int (nI 1), .int y]) S hK (c_X6_highestValue_3 l E) gX6_set_X6_highestValue rfl hd_X6_highestValue ⟨rfl, rfl⟩ ⟨Nat.le_of_ble_eq_true rfl, Nat.le_of_ble_eq_true rfl⟩ trivial rfl hl.1 rfl (Nat.le_of_ble_eq_true rfl) dX6_set_31 ⟨Nat.le_of_ble_eq_true rfl, Nat.le_of_ble_eq_true rfl⟩ ?_
    exact t_S (As := [.int y, .int (nI 1), .int (nI 5)]) (rest := []) S hK hX (x_X6_requireRange l hlS E A 1 5 y (fun q => h1 ((ms_b rfl).mp q))) gX6_set_X6_requireRange rfl hd_X6_requireRange ⟨rfl, rfl⟩ ⟨Nat.le_of_ble_eq_true rfl, Nat.le_of_ble_eq_true rfl⟩ trivial rfl hl.1 rfl (Nat.le_of_ble_eq_true rfl) dX6_set_34 ⟨Nat.le_of_ble_eq_true rfl, Nat.le_of_ble_eq_true rfl⟩ hout hlk
  · have hl : lv_has ls 4 [(0, .ref o), (1, .int (nI 4)), (2, .int y)] := hl
    refine lv_iload_n hx hb dX6_set_0 rfl (lv_at hl 1 rfl) ?_
    refine lv_aload_n hx hb dX6_set_1 rfl (lv_at hl 0 rfl) ?_
    refine k_get S hK hP0 rfl (fun _ h => List.mem_cons_of_mem _ (List.mem_append_left _ (List.mem_append_left _ (List.mem_append_left _ (List.mem_append_left _ (List.mem_append_left _ (List.mem_append_left _ (List.mem_append_left _ (List.mem_append_right _ (h)))))))))) 0 (by decide) (List.mem_cons_of_mem _ (List.mem_append_left _ (List.mem_append_left _ (List.mem_append_left _ (List.mem_append_left _ (List.mem_append_left _ (List.mem_append_left _ (List.mem_append_left _ (List.mem_append_left _ (List.mem_append_left _ (List.mem_of_getElem? (i := 2) rfl))))))))))) rfl (v := .ref (o + 1)) rfl dX6_set_2 ?_
    refine k_get S hK (dz_d hP1) rfl (fun _ h => List.mem_cons_of_mem _ (List.mem_append_left _ (List.mem_append_left _ (List.mem_append_left _ (List.mem_append_left _ (List.mem_append_left _ (List.mem_append_left _ (List.mem_append_right _ (h))))))))) 3 (by decide) (List.mem_cons_of_mem _ (List.mem_append_left _ (List.mem_append_left _ (List.mem_append_left _ (List.mem_append_left _ (List.mem_append_left _ (List.mem_append_left _ (List.mem_append_left _ (List.mem_append_left _ (List.mem_append_left _ (List.mem_of_getElem? (i := 3) rfl))))))))))) rfl (v := .ref (o + 1 + 4)) rfl dX6_set_5 ?_
    refine k_alen hx hb hK (t := 0) rfl (dz_st hP1) dX6_set_8 ?_
    refine k_top (y := nI 5) rfl ?_
    refine k_S (As := [.int (nI 4), .int (nI 5)]) (rest := []) S hK (c_X6_isIndex_n l E 4 5 (by omega) (by omega)) gX6_set_X6_isIndex rfl hd_X6_isIndex ⟨rfl, rfl⟩ ⟨Nat.le_of_ble_eq_true rfl, Nat.le_of_ble_eq_true rfl⟩ trivial rfl hl.1 rfl (Nat.le_of_ble_eq_true rfl) dX6_set_9 ⟨Nat.le_of_ble_eq_true rfl, Nat.le_of_ble_eq_true rfl⟩ ?_
    refine b_ne (tgt := 25) hx hb dX6_set_12 (by decide) (fun c12 => ?_) (fun h => absurd (by omega) h)
    refine lv_iload_n hx hb dX6_set_25 rfl (lv_at hl 2 rfl) ?_
    refine lv_iload_n hx hb dX6_set_26 rfl (lv_at hl 1 rfl) ?_
    refine k_S (As := [.int (nI 4)]) (rest := [.int y]) S hK (c_X6_lowestValue_4 l E) gX6_set_X6_lowestValue rfl hd_X6_lowestValue ⟨rfl, rfl⟩ ⟨Nat.le_of_ble_eq_true rfl, Nat.le_of_ble_eq_true rfl⟩ trivial rfl hl.1 rfl (Nat.le_of_ble_eq_true rfl) dX6_set_27 ⟨Nat.le_of_ble_eq_true rfl, Nat.le_of_ble_eq_true rfl⟩ ?_
    refine lv_iload_n hx hb dX6_set_30 rfl (lv_at hl 1 rfl) ?_
    refine k_S (As := [.int (nI 4)]) (rest := [.int (nI 0), .int y]) S hK (c_X6_highestValue_4 l E) gX6_set_X6_highestValue rfl hd_X6_highestValue ⟨rfl, rfl⟩ ⟨Nat.le_of_ble_eq_true rfl, Nat.le_of_ble_eq_true rfl⟩ trivial rfl hl.1 rfl (Nat.le_of_ble_eq_true rfl) dX6_set_31 ⟨Nat.le_of_ble_eq_true rfl, Nat.le_of_ble_eq_true rfl⟩ ?_
    exact t_S (As := [.int y, .int (nI 0), .int (nI 20)]) (rest := []) S hK hX (x_X6_requireRange l hlS E A 0 20 y (fun q => h1 ((ms_c (by omega)).mp q))) gX6_set_X6_requireRange rfl hd_X6_requireRange ⟨rfl, rfl⟩ ⟨Nat.le_of_ble_eq_true rfl, Nat.le_of_ble_eq_true rfl⟩ trivial rfl hl.1 rfl (Nat.le_of_ble_eq_true rfl) dX6_set_34 ⟨Nat.le_of_ble_eq_true rfl, Nat.le_of_ble_eq_true rfl⟩ hout hlk
def rx_X6_receive_1 : Room := { frames := 7, cells := 1, slots := 6, locals := 103 }
set_option maxHeartbeats 4000000 in
set_option maxRecDepth 100000 in
theorem x_X6_receive_1 (l : Launch) (hlS : l.stackTraces = false) (E : ke_E) (A : Nat → Prop) (o : Nat) (z : Nat → Int32) (x : Int32) (y : Int32) (hI : iv z) (h1 : ¬ inR x 6) : tM l yX6_receive wsX6_receive rx_X6_receive_1 E A [.ref o, .int x, .int y] (fun H => gg E o H ∧ dz E (o + 1) z H) "java/lang/IndexOutOfBoundsException" := by
  refine t_hd (cc := cX6_receive) (maxL := 3) (ret := (some .int)) (by decide) rfl (Nat.le_of_ble_eq_true rfl) ?_
  intro p e s m below meth c ls S hlk hout hK hX hP hl
  have hx := S.1
  have hb := S.2.1
  have hts := S.2.2.2.2
  obtain ⟨hP0, hP1⟩ := hP
  have hl : lv_has ls 3 [(0, .ref o), (1, .int x), (2, .int y)] := hl
  have hc20 := iv_c hI
  refine lv_aload_n hx hb dX6_receive_0 rfl (lv_at hl 0 rfl) ?_
  refine lv_iload_n hx hb dX6_receive_1 rfl (lv_at hl 1 rfl) ?_
  exact t_V (As := [.int x]) (rest := []) S hK hX (x_X6_productNumbered l hlS E A o z x hI h1) gX6_receive_X6_productNumbered rfl hd_X6_productNumbered ⟨rfl, rfl⟩ ⟨Nat.le_of_ble_eq_true rfl, Nat.le_of_ble_eq_true rfl⟩ (k_recv hK hP0 rfl) ⟨hP0, hP1⟩ rfl hl.1 rfl (Nat.le_of_ble_eq_true rfl) dX6_receive_2 ⟨Nat.le_of_ble_eq_true rfl, Nat.le_of_ble_eq_true rfl⟩ hout hlk
def rx_X6_receive_2 : Room := { frames := 6, cells := 1, slots := 6, locals := 82 }
set_option maxHeartbeats 4000000 in
set_option maxRecDepth 100000 in
theorem x_X6_receive_2 (l : Launch) (hlS : l.stackTraces = false) (E : ke_E) (A : Nat → Prop) (o : Nat) (z : Nat → Int32) (q : Nat) (x : Int32) (hI : iv z) (hq6 : q < 6) (h1 : ¬ inR x 4) : tM l yX6_receive wsX6_receive rx_X6_receive_2 E A [.ref o, .int (nI q), .int x] (fun H => gg E o H ∧ dz E (o + 1) z H) "java/lang/IndexOutOfBoundsException" := by
  refine t_hd (cc := cX6_receive) (maxL := 3) (ret := (some .int)) (by decide) rfl (Nat.le_of_ble_eq_true rfl) ?_
  intro p e s m below meth c ls S hlk hout hK hX hP hl
  have hx := S.1
  have hb := S.2.1
  have hts := S.2.2.2.2
  obtain ⟨hP0, hP1⟩ := hP
  have hl : lv_has ls 3 [(0, .ref o), (1, .int (nI q)), (2, .int x)] := hl
  have hc20 := iv_c hI
  refine lv_aload_n hx hb dX6_receive_0 rfl (lv_at hl 0 rfl) ?_
  refine lv_iload_n hx hb dX6_receive_1 rfl (lv_at hl 1 rfl) ?_
  refine k_V (As := [.int (nI q)]) (rest := []) S hK (c_X6_productNumbered l E o z q hI hq6) gX6_receive_X6_productNumbered rfl hd_X6_productNumbered ⟨rfl, rfl⟩ ⟨Nat.le_of_ble_eq_true rfl, Nat.le_of_ble_eq_true rfl⟩ (k_recv hK hP0 rfl) ⟨hP0, hP1⟩ rfl hl.1 rfl (Nat.le_of_ble_eq_true rfl) dX6_receive_2 ⟨Nat.le_of_ble_eq_true rfl, Nat.le_of_ble_eq_true rfl⟩ ?_
  refine lv_pop hx hb dX6_receive_5 rfl ?_
  refine lv_iload_n hx hb dX6_receive_6 rfl (lv_at hl 2 rfl) ?_
  refine lv_iconst (v := nI 4) hx hb dX6_receive_7 (by decide) ?_
  refine k_S (As := [.int x, .int (nI 4)]) (rest := []) S hK (c_X6_isIndex l E x 4 (by omega)) gX6_receive_X6_isIndex rfl hd_X6_isIndex ⟨rfl, rfl⟩ ⟨Nat.le_of_ble_eq_true rfl, Nat.le_of_ble_eq_true rfl⟩ trivial rfl hl.1 rfl (Nat.le_of_ble_eq_true rfl) dX6_receive_8 ⟨Nat.le_of_ble_eq_true rfl, Nat.le_of_ble_eq_true rfl⟩ ?_
  refine b_ne (tgt := 24) hx hb dX6_receive_11 (by decide) (fun h => absurd h h1) (fun c11 => ?_)
  exact t_thS0 hlS S hX (List.mem_of_getElem? (i := 0) rfl) (List.mem_cons_of_mem _ (List.mem_append_left _ (List.mem_append_left _ (List.mem_append_left _ (List.mem_append_left _ (List.mem_append_left _ (List.mem_append_left _ (List.mem_append_left _ (List.mem_append_left _ (List.mem_append_left _ (List.mem_of_getElem? (i := 0) rfl))))))))))) (List.mem_cons_of_mem _ (List.mem_append_left _ (List.mem_append_left _ (List.mem_append_left _ (List.mem_append_left _ (List.mem_append_left _ (List.mem_append_left _ (List.mem_append_left _ (List.mem_append_left _ (List.mem_append_left _ (List.mem_of_getElem? (i := 1) rfl))))))))))) (fun _ h => List.mem_cons_of_mem _ (List.mem_append_left _ (List.mem_append_right _ (h)))) hl.1 hlk hout dX6_receive_14 dX6_receive_17 dX6_receive_18 dX6_receive_20 dX6_receive_23 ⟨Nat.le_of_ble_eq_true rfl, Nat.le_of_ble_eq_true rfl, Nat.le_of_ble_eq_true rfl, Nat.le_of_ble_eq_true rfl⟩
def rx_X6_receive_3 : Room := { frames := 6, cells := 1, slots := 6, locals := 82 }
set_option maxHeartbeats 4000000 in
set_option maxRecDepth 100000 in
theorem x_X6_receive_3 (l : Launch) (hlS : l.stackTraces = false) (E : ke_E) (A : Nat → Prop) (o : Nat) (z : Nat → Int32) (q : Nat) (k : Nat) (hI : iv z) (hq6 : q < 6) (hk4 : k < 4) (h1 : cn z = 20) : tM l yX6_receive wsX6_receive rx_X6_receive_3 E A [.ref o, .int (nI q), .int (nI k)] (fun H => gg E o H ∧ dz E (o + 1) z H) "java/lang/IllegalStateException" := by
  refine t_hd (cc := cX6_receive) (maxL := 3) (ret := (some .int)) (by decide) rfl (Nat.le_of_ble_eq_true rfl) ?_
  intro p e s m below meth c ls S hlk hout hK hX hP hl
  have hx := S.1
  have hb := S.2.1
  have hts := S.2.2.2.2
  obtain ⟨hP0, hP1⟩ := hP
  have hl : lv_has ls 3 [(0, .ref o), (1, .int (nI q)), (2, .int (nI k))] := hl
  have hc20 := iv_c hI
  refine lv_aload_n hx hb dX6_receive_0 rfl (lv_at hl 0 rfl) ?_
  refine lv_iload_n hx hb dX6_receive_1 rfl (lv_at hl 1 rfl) ?_
  refine k_V (As := [.int (nI q)]) (rest := []) S hK (c_X6_productNumbered l E o z q hI hq6) gX6_receive_X6_productNumbered rfl hd_X6_productNumbered ⟨rfl, rfl⟩ ⟨Nat.le_of_ble_eq_true rfl, Nat.le_of_ble_eq_true rfl⟩ (k_recv hK hP0 rfl) ⟨hP0, hP1⟩ rfl hl.1 rfl (Nat.le_of_ble_eq_true rfl) dX6_receive_2 ⟨Nat.le_of_ble_eq_true rfl, Nat.le_of_ble_eq_true rfl⟩ ?_
  refine lv_pop hx hb dX6_receive_5 rfl ?_
  refine lv_iload_n hx hb dX6_receive_6 rfl (lv_at hl 2 rfl) ?_
  refine lv_iconst (v := nI 4) hx hb dX6_receive_7 (by decide) ?_
  refine k_S (As := [.int (nI k), .int (nI 4)]) (rest := []) S hK (c_X6_isIndex_n l E k 4 (by omega) (by omega)) gX6_receive_X6_isIndex rfl hd_X6_isIndex ⟨rfl, rfl⟩ ⟨Nat.le_of_ble_eq_true rfl, Nat.le_of_ble_eq_true rfl⟩ trivial rfl hl.1 rfl (Nat.le_of_ble_eq_true rfl) dX6_receive_8 ⟨Nat.le_of_ble_eq_true rfl, Nat.le_of_ble_eq_true rfl⟩ ?_
  refine b_ne (tgt := 24) hx hb dX6_receive_11 (by decide) (fun c11 => ?_) (fun h => absurd hk4 h)
  refine lv_aload_n hx hb dX6_receive_24 rfl (lv_at hl 0 rfl) ?_
  refine k_get S hK hP0 rfl (fun _ h => List.mem_cons_of_mem _ (List.mem_append_left _ (List.mem_append_left _ (List.mem_append_left _ (List.mem_append_left _ (List.mem_append_left _ (List.mem_append_left _ (List.mem_append_left _ (List.mem_append_right _ (h)))))))))) 0 (by decide) (List.mem_cons_of_mem _ (List.mem_append_left _ (List.mem_append_left _ (List.mem_append_left _ (List.mem_append_left _ (List.mem_append_left _ (List.mem_append_left _ (List.mem_append_left _ (List.mem_append_left _ (List.mem_append_left _ (List.mem_of_getElem? (i := 4) rfl))))))))))) rfl (v := .ref (o + 1)) rfl dX6_receive_25 ?_
  refine k_get S hK (dz_d hP1) rfl (fun _ h => List.mem_cons_of_mem _ (List.mem_append_left _ (List.mem_append_left _ (List.mem_append_left _ (List.mem_append_left _ (List.mem_append_left _ (List.mem_append_left _ (List.mem_append_right _ (h))))))))) 4 (by decide) (List.mem_cons_of_mem _ (List.mem_append_left _ (List.mem_append_left _ (List.mem_append_left _ (List.mem_append_left _ (List.mem_append_left _ (List.mem_append_left _ (List.mem_append_left _ (List.mem_append_left _ (List.mem_append_left _ (List.mem_of_getElem? (i := 5) rfl))))))))))) rfl (v := .int (nI (cn z))) (congrArg (fun x => some (Value.int x)) ((iv_n hI))) dX6_receive_28 ?_
  refine lv_bipush (v := nI 20) hx hb dX6_receive_31 (by decide) ?_
  refine n_ilt (tgt := 46) hx hb dX6_receive_33 (by decide) (by omega) (by omega) (fun h => absurd h (by omega)) (fun c33 => ?_)
  exact t_thS2 hlS S hX (List.mem_of_getElem? (i := 2) rfl) (List.mem_cons_of_mem _ (List.mem_append_left _ (List.mem_append_left _ (List.mem_append_left _ (List.mem_append_left _ (List.mem_append_left _ (List.mem_append_left _ (List.mem_append_left _ (List.mem_append_left _ (List.mem_append_left _ (List.mem_of_getElem? (i := 2) rfl))))))))))) (List.mem_cons_of_mem _ (List.mem_append_left _ (List.mem_append_left _ (List.mem_append_left _ (List.mem_append_left _ (List.mem_append_left _ (List.mem_append_left _ (List.mem_append_left _ (List.mem_append_left _ (List.mem_append_left _ (List.mem_of_getElem? (i := 3) rfl))))))))))) (fun _ h => List.mem_cons_of_mem _ (List.mem_append_right _ (h))) hl.1 hlk hout dX6_receive_36 dX6_receive_39 dX6_receive_40 dX6_receive_42 dX6_receive_45 ⟨Nat.le_of_ble_eq_true rfl, Nat.le_of_ble_eq_true rfl, Nat.le_of_ble_eq_true rfl, Nat.le_of_ble_eq_true rfl⟩
def rx_X6_test_1 : Room := { frames := 7, cells := 1, slots := 6, locals := 103 }
set_option maxHeartbeats 4000000 in
set_option maxRecDepth 100000 in
theorem x_X6_test_1 (l : Launch) (hlS : l.stackTraces = false) (E : ke_E) (A : Nat → Prop) (o : Nat) (z : Nat → Int32) (x : Int32) (y : Int32) (w : Int32) (hI : iv z) (h1 : ¬ inR x (cn z)) : tM l yX6_test wsX6_test rx_X6_test_1 E A [.ref o, .int x, .int y, .int w] (fun H => gg E o H ∧ dz E (o + 1) z H) "java/lang/IndexOutOfBoundsException" := by
  refine t_hd (cc := cX6_test) (maxL := 5) (ret := (some .int)) (by decide) rfl (Nat.le_of_ble_eq_true rfl) ?_
  intro p e s m below meth c ls S hlk hout hK hX hP hl
  have hx := S.1
  have hb := S.2.1
  have hts := S.2.2.2.2
  obtain ⟨hP0, hP1⟩ := hP
  have hl : lv_has ls 5 [(0, .ref o), (1, .int x), (2, .int y), (3, .int w)] := hl
  have hc20 := iv_c hI
  refine lv_aload_n hx hb dX6_test_0 rfl (lv_at hl 0 rfl) ?_
  refine lv_iload_n hx hb dX6_test_1 rfl (lv_at hl 1 rfl) ?_
  exact t_V (As := [.int x]) (rest := []) S hK hX (x_X6_unitNumbered l hlS E A o z x hI h1) gX6_test_X6_unitNumbered rfl hd_X6_unitNumbered ⟨rfl, rfl⟩ ⟨Nat.le_of_ble_eq_true rfl, Nat.le_of_ble_eq_true rfl⟩ (k_recv hK hP0 rfl) ⟨hP0, hP1⟩ rfl hl.1 rfl (Nat.le_of_ble_eq_true rfl) dX6_test_2 ⟨Nat.le_of_ble_eq_true rfl, Nat.le_of_ble_eq_true rfl⟩ hout hlk
def rx_X6_test_2 : Room := { frames := 6, cells := 1, slots := 6, locals := 82 }
set_option maxHeartbeats 4000000 in
set_option maxRecDepth 100000 in
theorem x_X6_test_2 (l : Launch) (hlS : l.stackTraces = false) (E : ke_E) (A : Nat → Prop) (o : Nat) (z : Nat → Int32) (u : Nat) (x : Int32) (y : Int32) (hI : iv z) (hu : u < cn z) (h1 : ¬ inR x 4) : tM l yX6_test wsX6_test rx_X6_test_2 E A [.ref o, .int (nI u), .int x, .int y] (fun H => gg E o H ∧ dz E (o + 1) z H) "java/lang/IndexOutOfBoundsException" := by
  refine t_hd (cc := cX6_test) (maxL := 5) (ret := (some .int)) (by decide) rfl (Nat.le_of_ble_eq_true rfl) ?_
  intro p e s m below meth c ls S hlk hout hK hX hP hl
  have hx := S.1
  have hb := S.2.1
  have hts := S.2.2.2.2
  obtain ⟨hP0, hP1⟩ := hP
  have hl : lv_has ls 5 [(0, .ref o), (1, .int (nI u)), (2, .int x), (3, .int y)] := hl
  have hc20 := iv_c hI
  refine lv_aload_n hx hb dX6_test_0 rfl (lv_at hl 0 rfl) ?_
  refine lv_iload_n hx hb dX6_test_1 rfl (lv_at hl 1 rfl) ?_
  refine k_V (As := [.int (nI u)]) (rest := []) S hK (c_X6_unitNumbered l E o z u hI hu) gX6_test_X6_unitNumbered rfl hd_X6_unitNumbered ⟨rfl, rfl⟩ ⟨Nat.le_of_ble_eq_true rfl, Nat.le_of_ble_eq_true rfl⟩ (k_recv hK hP0 rfl) ⟨hP0, hP1⟩ rfl hl.1 rfl (Nat.le_of_ble_eq_true rfl) dX6_test_2 ⟨Nat.le_of_ble_eq_true rfl, Nat.le_of_ble_eq_true rfl⟩ ?_
  refine lv_astore (lv' := [(4, .ref (o + 1 + 2*u + 19)), (0, .ref o), (1, .int (nI u)), (2, .int x), (3, .int y)]) hx hb dX6_test_5 hl (by decide) rfl (fun ls hl => ?_)
  refine lv_iload_n hx hb dX6_test_7 rfl (lv_at hl 3 rfl) ?_
  refine lv_aload hx hb dX6_test_8 (lv_at hl 0 rfl) ?_
  refine k_get S hK (dz_u hP1 u hu) rfl (fun _ h => List.mem_cons_of_mem _ (List.mem_append_left _ (List.mem_append_left _ (List.mem_append_left _ (List.mem_append_left _ (List.mem_append_left _ (List.mem_append_left _ (List.mem_append_left _ (List.mem_append_left _ (List.mem_append_right _ (h))))))))))) 0 (by decide) (List.mem_cons_of_mem _ (List.mem_append_left _ (List.mem_append_left _ (List.mem_append_left _ (List.mem_append_left _ (List.mem_append_left _ (List.mem_append_left _ (List.mem_append_left _ (List.mem_append_left _ (List.mem_append_left _ (List.mem_append_left _ (List.mem_of_getElem? (i := 4) rfl)))))))))))) rfl (v := .ref (o + 1 + 2*u + 20)) rfl dX6_test_10 ?_
  refine k_alen hx hb hK (t := 0) rfl (dz_sc hP1 u hu) dX6_test_13 ?_
  refine k_top (y := nI 4) rfl ?_
  refine k_S (As := [.int x, .int (nI 4)]) (rest := []) S hK (c_X6_isIndex l E x 4 (by omega)) gX6_test_X6_isIndex rfl hd_X6_isIndex ⟨rfl, rfl⟩ ⟨Nat.le_of_ble_eq_true rfl, Nat.le_of_ble_eq_true rfl⟩ trivial rfl hl.1 rfl (Nat.le_of_ble_eq_true rfl) dX6_test_14 ⟨Nat.le_of_ble_eq_true rfl, Nat.le_of_ble_eq_true rfl⟩ ?_
  refine b_ne (tgt := 30) hx hb dX6_test_17 (by decide) (fun h => absurd h h1) (fun c17 => ?_)
  exact t_thS0 hlS S hX (List.mem_of_getElem? (i := 3) rfl) (List.mem_cons_of_mem _ (List.mem_append_left _ (List.mem_append_left _ (List.mem_append_left _ (List.mem_append_left _ (List.mem_append_left _ (List.mem_append_left _ (List.mem_append_left _ (List.mem_append_left _ (List.mem_append_left _ (List.mem_append_left _ (List.mem_of_getElem? (i := 0) rfl)))))))))))) (List.mem_cons_of_mem _ (List.mem_append_left _ (List.mem_append_left _ (List.mem_append_left _ (List.mem_append_left _ (List.mem_append_left _ (List.mem_append_left _ (List.mem_append_left _ (List.mem_append_left _ (List.mem_append_left _ (List.mem_append_left _ (List.mem_of_getElem? (i := 1) rfl)))))))))))) (fun _ h => List.mem_cons_of_mem _ (List.mem_append_left _ (List.mem_append_left _ (List.mem_append_right _ (h))))) hl.1 hlk hout dX6_test_20 dX6_test_23 dX6_test_24 dX6_test_26 dX6_test_29 ⟨Nat.le_of_ble_eq_true rfl, Nat.le_of_ble_eq_true rfl, Nat.le_of_ble_eq_true rfl, Nat.le_of_ble_eq_true rfl⟩
def rx_X6_test_3 : Room := { frames := 7, cells := 1, slots := 6, locals := 104 }
set_option maxHeartbeats 4000000 in
set_option maxRecDepth 100000 in
theorem x_X6_test_3 (l : Launch) (hlS : l.stackTraces = false) (E : ke_E) (A : Nat → Prop) (o : Nat) (z : Nat → Int32) (u : Nat) (t : Nat) (y : Int32) (hI : iv z) (hu : u < cn z) (ht4 : t < 4) (h1 : ¬ (nI 0 ≤ y ∧ y ≤ nI 9)) : tM l yX6_test wsX6_test rx_X6_test_3 E A [.ref o, .int (nI u), .int (nI t), .int y] (fun H => gg E o H ∧ dz E (o + 1) z H) "java/lang/IllegalArgumentException" := by
  refine t_hd (cc := cX6_test) (maxL := 5) (ret := (some .int)) (by decide) rfl (Nat.le_of_ble_eq_true rfl) ?_
  intro p e s m below meth c ls S hlk hout hK hX hP hl
  have hx := S.1
  have hb := S.2.1
  have hts := S.2.2.2.2
  obtain ⟨hP0, hP1⟩ := hP
  have hl : lv_has ls 5 [(0, .ref o), (1, .int (nI u)), (2, .int (nI t)), (3, .int y)] := hl
  have hc20 := iv_c hI
  refine lv_aload_n hx hb dX6_test_0 rfl (lv_at hl 0 rfl) ?_
  refine lv_iload_n hx hb dX6_test_1 rfl (lv_at hl 1 rfl) ?_
  refine k_V (As := [.int (nI u)]) (rest := []) S hK (c_X6_unitNumbered l E o z u hI hu) gX6_test_X6_unitNumbered rfl hd_X6_unitNumbered ⟨rfl, rfl⟩ ⟨Nat.le_of_ble_eq_true rfl, Nat.le_of_ble_eq_true rfl⟩ (k_recv hK hP0 rfl) ⟨hP0, hP1⟩ rfl hl.1 rfl (Nat.le_of_ble_eq_true rfl) dX6_test_2 ⟨Nat.le_of_ble_eq_true rfl, Nat.le_of_ble_eq_true rfl⟩ ?_
  refine lv_astore (lv' := [(4, .ref (o + 1 + 2*u + 19)), (0, .ref o), (1, .int (nI u)), (2, .int (nI t)), (3, .int y)]) hx hb dX6_test_5 hl (by decide) rfl (fun ls hl => ?_)
  refine lv_iload_n hx hb dX6_test_7 rfl (lv_at hl 3 rfl) ?_
  refine lv_aload hx hb dX6_test_8 (lv_at hl 0 rfl) ?_
  refine k_get S hK (dz_u hP1 u hu) rfl (fun _ h => List.mem_cons_of_mem _ (List.mem_append_left _ (List.mem_append_left _ (List.mem_append_left _ (List.mem_append_left _ (List.mem_append_left _ (List.mem_append_left _ (List.mem_append_left _ (List.mem_append_left _ (List.mem_append_right _ (h))))))))))) 0 (by decide) (List.mem_cons_of_mem _ (List.mem_append_left _ (List.mem_append_left _ (List.mem_append_left _ (List.mem_append_left _ (List.mem_append_left _ (List.mem_append_left _ (List.mem_append_left _ (List.mem_append_left _ (List.mem_append_left _ (List.mem_append_left _ (List.mem_of_getElem? (i := 4) rfl)))))))))))) rfl (v := .ref (o + 1 + 2*u + 20)) rfl dX6_test_10 ?_
  refine k_alen hx hb hK (t := 0) rfl (dz_sc hP1 u hu) dX6_test_13 ?_
  refine k_top (y := nI 4) rfl ?_
  refine k_S (As := [.int (nI t), .int (nI 4)]) (rest := []) S hK (c_X6_isIndex_n l E t 4 (by omega) (by omega)) gX6_test_X6_isIndex rfl hd_X6_isIndex ⟨rfl, rfl⟩ ⟨Nat.le_of_ble_eq_true rfl, Nat.le_of_ble_eq_true rfl⟩ trivial rfl hl.1 rfl (Nat.le_of_ble_eq_true rfl) dX6_test_14 ⟨Nat.le_of_ble_eq_true rfl, Nat.le_of_ble_eq_true rfl⟩ ?_
  refine b_ne (tgt := 30) hx hb dX6_test_17 (by decide) (fun c17 => ?_) (fun h => absurd ht4 h)
  refine lv_iload_n hx hb dX6_test_30 rfl (lv_at hl 4 rfl) ?_
  refine lv_iconst (v := nI 0) hx hb dX6_test_31 (by decide) ?_
  refine lv_bipush (v := nI 9) hx hb dX6_test_32 (by decide) ?_
  exact t_S (As := [.int y, .int (nI 0), .int (nI 9)]) (rest := []) S hK hX (x_X6_requireRange l hlS E A 0 9 y h1) gX6_test_X6_requireRange rfl hd_X6_requireRange ⟨rfl, rfl⟩ ⟨Nat.le_of_ble_eq_true rfl, Nat.le_of_ble_eq_true rfl⟩ trivial rfl hl.1 rfl (Nat.le_of_ble_eq_true rfl) dX6_test_34 ⟨Nat.le_of_ble_eq_true rfl, Nat.le_of_ble_eq_true rfl⟩ hout hlk
def rx_X6_test_4 : Room := { frames := 6, cells := 1, slots := 6, locals := 82 }
set_option maxHeartbeats 4000000 in
set_option maxRecDepth 100000 in
theorem x_X6_test_4 (l : Launch) (hlS : l.stackTraces = false) (E : ke_E) (A : Nat → Prop) (o : Nat) (z : Nat → Int32) (u : Nat) (t : Nat) (y : Int32) (hI : iv z) (hu : u < cn z) (ht4 : t < 4) (h1 : nI 0 ≤ y ∧ y ≤ nI 9) (h2 : ¬ z (13*u + 68) = 0) : tM l yX6_test wsX6_test rx_X6_test_4 E A [.ref o, .int (nI u), .int (nI t), .int y] (fun H => gg E o H ∧ dz E (o + 1) z H) "java/lang/IllegalStateException" := by
  refine t_hd (cc := cX6_test) (maxL := 5) (ret := (some .int)) (by decide) rfl (Nat.le_of_ble_eq_true rfl) ?_
  intro p e s m below meth c ls S hlk hout hK hX hP hl
  have hx := S.1
  have hb := S.2.1
  have hts := S.2.2.2.2
  obtain ⟨hP0, hP1⟩ := hP
  have hl : lv_has ls 5 [(0, .ref o), (1, .int (nI u)), (2, .int (nI t)), (3, .int y)] := hl
  have hc20 := iv_c hI
  refine lv_aload_n hx hb dX6_test_0 rfl (lv_at hl 0 rfl) ?_
  refine lv_iload_n hx hb dX6_test_1 rfl (lv_at hl 1 rfl) ?_
  refine k_V (As := [.int (nI u)]) (rest := []) S hK (c_X6_unitNumbered l E o z u hI hu) gX6_test_X6_unitNumbered rfl hd_X6_unitNumbered ⟨rfl, rfl⟩ ⟨Nat.le_of_ble_eq_true rfl, Nat.le_of_ble_eq_true rfl⟩ (k_recv hK hP0 rfl) ⟨hP0, hP1⟩ rfl hl.1 rfl (Nat.le_of_ble_eq_true rfl) dX6_test_2 ⟨Nat.le_of_ble_eq_true rfl, Nat.le_of_ble_eq_true rfl⟩ ?_
  refine lv_astore (lv' := [(4, .ref (o + 1 + 2*u + 19)), (0, .ref o), (1, .int (nI u)), (2, .int (nI t)), (3, .int y)]) hx hb dX6_test_5 hl (by decide) rfl (fun ls hl => ?_)
  refine lv_iload_n hx hb dX6_test_7 rfl (lv_at hl 3 rfl) ?_
  refine lv_aload hx hb dX6_test_8 (lv_at hl 0 rfl) ?_
  refine k_get S hK (dz_u hP1 u hu) rfl (fun _ h => List.mem_cons_of_mem _ (List.mem_append_left _ (List.mem_append_left _ (List.mem_append_left _ (List.mem_append_left _ (List.mem_append_left _ (List.mem_append_left _ (List.mem_append_left _ (List.mem_append_left _ (List.mem_append_right _ (h))))))))))) 0 (by decide) (List.mem_cons_of_mem _ (List.mem_append_left _ (List.mem_append_left _ (List.mem_append_left _ (List.mem_append_left _ (List.mem_append_left _ (List.mem_append_left _ (List.mem_append_left _ (List.mem_append_left _ (List.mem_append_left _ (List.mem_append_left _ (List.mem_of_getElem? (i := 4) rfl)))))))))))) rfl (v := .ref (o + 1 + 2*u + 20)) rfl dX6_test_10 ?_
  refine k_alen hx hb hK (t := 0) rfl (dz_sc hP1 u hu) dX6_test_13 ?_
  refine k_top (y := nI 4) rfl ?_
  refine k_S (As := [.int (nI t), .int (nI 4)]) (rest := []) S hK (c_X6_isIndex_n l E t 4 (by omega) (by omega)) gX6_test_X6_isIndex rfl hd_X6_isIndex ⟨rfl, rfl⟩ ⟨Nat.le_of_ble_eq_true rfl, Nat.le_of_ble_eq_true rfl⟩ trivial rfl hl.1 rfl (Nat.le_of_ble_eq_true rfl) dX6_test_14 ⟨Nat.le_of_ble_eq_true rfl, Nat.le_of_ble_eq_true rfl⟩ ?_
  refine b_ne (tgt := 30) hx hb dX6_test_17 (by decide) (fun c17 => ?_) (fun h => absurd ht4 h)
  refine lv_iload_n hx hb dX6_test_30 rfl (lv_at hl 4 rfl) ?_
  refine lv_iconst (v := nI 0) hx hb dX6_test_31 (by decide) ?_
  refine lv_bipush (v := nI 9) hx hb dX6_test_32 (by decide) ?_
  refine k_S (As := [.int y, .int (nI 0), .int (nI 9)]) (rest := []) S hK (c_X6_requireRange l E 0 9 y h1) gX6_test_X6_requireRange rfl hd_X6_requireRange ⟨rfl, rfl⟩ ⟨Nat.le_of_ble_eq_true rfl, Nat.le_of_ble_eq_true rfl⟩ trivial rfl hl.1 rfl (Nat.le_of_ble_eq_true rfl) dX6_test_34 ⟨Nat.le_of_ble_eq_true rfl, Nat.le_of_ble_eq_true rfl⟩ ?_
  refine lv_aload hx hb dX6_test_37 (lv_at hl 0 rfl) ?_
  refine k_get S hK (dz_u hP1 u hu) rfl (fun _ h => List.mem_cons_of_mem _ (List.mem_append_left _ (List.mem_append_left _ (List.mem_append_left _ (List.mem_append_left _ (List.mem_append_left _ (List.mem_append_left _ (List.mem_append_left _ (List.mem_append_left _ (List.mem_append_right _ (h))))))))))) 3 (by decide) (List.mem_cons_of_mem _ (List.mem_append_left _ (List.mem_append_left _ (List.mem_append_left _ (List.mem_append_left _ (List.mem_append_left _ (List.mem_append_left _ (List.mem_append_left _ (List.mem_append_left _ (List.mem_append_left _ (List.mem_append_left _ (List.mem_of_getElem? (i := 5) rfl)))))))))))) rfl (v := .int (z (13*u + 68))) rfl dX6_test_39 ?_
  refine lv_if_eq (tgt := 55) hx hb dX6_test_42 (by decide) (fun h => absurd h h2) (fun c42 => ?_)
  exact t_thS2 hlS S hX (List.mem_of_getElem? (i := 4) rfl) (List.mem_cons_of_mem _ (List.mem_append_left _ (List.mem_append_left _ (List.mem_append_left _ (List.mem_append_left _ (List.mem_append_left _ (List.mem_append_left _ (List.mem_append_left _ (List.mem_append_left _ (List.mem_append_left _ (List.mem_append_left _ (List.mem_of_getElem? (i := 2) rfl)))))))))))) (List.mem_cons_of_mem _ (List.mem_append_left _ (List.mem_append_left _ (List.mem_append_left _ (List.mem_append_left _ (List.mem_append_left _ (List.mem_append_left _ (List.mem_append_left _ (List.mem_append_left _ (List.mem_append_left _ (List.mem_append_left _ (List.mem_of_getElem? (i := 3) rfl)))))))))))) (fun _ h => List.mem_cons_of_mem _ (List.mem_append_left _ (List.mem_append_right _ (h)))) hl.1 hlk hout dX6_test_45 dX6_test_48 dX6_test_49 dX6_test_51 dX6_test_54 ⟨Nat.le_of_ble_eq_true rfl, Nat.le_of_ble_eq_true rfl, Nat.le_of_ble_eq_true rfl, Nat.le_of_ble_eq_true rfl⟩
def rx_X6_send_1 : Room := { frames := 7, cells := 1, slots := 6, locals := 103 }
set_option maxHeartbeats 4000000 in
set_option maxRecDepth 100000 in
theorem x_X6_send_1 (l : Launch) (hlS : l.stackTraces = false) (E : ke_E) (A : Nat → Prop) (o : Nat) (z : Nat → Int32) (x : Int32) (y : Int32) (hI : iv z) (h1 : ¬ inR x (cn z)) : tM l yX6_send wsX6_send rx_X6_send_1 E A [.ref o, .int x, .int y] (fun H => gg E o H ∧ dz E (o + 1) z H) "java/lang/IndexOutOfBoundsException" := by
  refine t_hd (cc := cX6_send) (maxL := 4) (ret := (some .int)) (by decide) rfl (Nat.le_of_ble_eq_true rfl) ?_
  intro p e s m below meth c ls S hlk hout hK hX hP hl
  have hx := S.1
  have hb := S.2.1
  have hts := S.2.2.2.2
  obtain ⟨hP0, hP1⟩ := hP
  have hl : lv_has ls 4 [(0, .ref o), (1, .int x), (2, .int y)] := hl
  have hc20 := iv_c hI
  refine lv_aload_n hx hb dX6_send_0 rfl (lv_at hl 0 rfl) ?_
  refine lv_iload_n hx hb dX6_send_1 rfl (lv_at hl 1 rfl) ?_
  exact t_V (As := [.int x]) (rest := []) S hK hX (x_X6_unitNumbered l hlS E A o z x hI h1) gX6_send_X6_unitNumbered rfl hd_X6_unitNumbered ⟨rfl, rfl⟩ ⟨Nat.le_of_ble_eq_true rfl, Nat.le_of_ble_eq_true rfl⟩ (k_recv hK hP0 rfl) ⟨hP0, hP1⟩ rfl hl.1 rfl (Nat.le_of_ble_eq_true rfl) dX6_send_2 ⟨Nat.le_of_ble_eq_true rfl, Nat.le_of_ble_eq_true rfl⟩ hout hlk
def rx_X6_send_2 : Room := { frames := 7, cells := 1, slots := 6, locals := 104 }
set_option maxHeartbeats 4000000 in
set_option maxRecDepth 100000 in
theorem x_X6_send_2 (l : Launch) (hlS : l.stackTraces = false) (E : ke_E) (A : Nat → Prop) (o : Nat) (z : Nat → Int32) (u : Nat) (y : Int32) (hI : iv z) (hu : u < cn z) (h1 : ¬ (nI 1 ≤ y ∧ y ≤ nI 4)) : tM l yX6_send wsX6_send rx_X6_send_2 E A [.ref o, .int (nI u), .int y] (fun H => gg E o H ∧ dz E (o + 1) z H) "java/lang/IllegalArgumentException" := by
  refine t_hd (cc := cX6_send) (maxL := 4) (ret := (some .int)) (by decide) rfl (Nat.le_of_ble_eq_true rfl) ?_
  intro p e s m below meth c ls S hlk hout hK hX hP hl
  have hx := S.1
  have hb := S.2.1
  have hts := S.2.2.2.2
  obtain ⟨hP0, hP1⟩ := hP
  have hl : lv_has ls 4 [(0, .ref o), (1, .int (nI u)), (2, .int y)] := hl
  have hc20 := iv_c hI
  refine lv_aload_n hx hb dX6_send_0 rfl (lv_at hl 0 rfl) ?_
  refine lv_iload_n hx hb dX6_send_1 rfl (lv_at hl 1 rfl) ?_
  refine k_V (As := [.int (nI u)]) (rest := []) S hK (c_X6_unitNumbered l E o z u hI hu) gX6_send_X6_unitNumbered rfl hd_X6_unitNumbered ⟨rfl, rfl⟩ ⟨Nat.le_of_ble_eq_true rfl, Nat.le_of_ble_eq_true rfl⟩ (k_recv hK hP0 rfl) ⟨hP0, hP1⟩ rfl hl.1 rfl (Nat.le_of_ble_eq_true rfl) dX6_send_2 ⟨Nat.le_of_ble_eq_true rfl, Nat.le_of_ble_eq_true rfl⟩ ?_
  refine lv_astore_n (lv' := [(3, .ref (o + 1 + 2*u + 19)), (0, .ref o), (1, .int (nI u)), (2, .int y)]) hx hb dX6_send_5 rfl hl (by decide) rfl (fun ls hl => ?_)
  refine lv_iload_n hx hb dX6_send_6 rfl (lv_at hl 3 rfl) ?_
  refine lv_iconst (v := nI 1) hx hb dX6_send_7 (by decide) ?_
  refine lv_iconst (v := nI 4) hx hb dX6_send_8 (by decide) ?_
  exact t_S (As := [.int y, .int (nI 1), .int (nI 4)]) (rest := []) S hK hX (x_X6_requireRange l hlS E A 1 4 y h1) gX6_send_X6_requireRange rfl hd_X6_requireRange ⟨rfl, rfl⟩ ⟨Nat.le_of_ble_eq_true rfl, Nat.le_of_ble_eq_true rfl⟩ trivial rfl hl.1 rfl (Nat.le_of_ble_eq_true rfl) dX6_send_9 ⟨Nat.le_of_ble_eq_true rfl, Nat.le_of_ble_eq_true rfl⟩ hout hlk
def rx_X6_send_3_1 : Room := { frames := 6, cells := 1, slots := 6, locals := 86 }
set_option maxHeartbeats 4000000 in
set_option maxRecDepth 100000 in
theorem x_X6_send_3_1 (l : Launch) (hlS : l.stackTraces = false) (E : ke_E) (A : Nat → Prop) (o : Nat) (z : Nat → Int32) (u : Nat) (hI : iv z) (hu : u < cn z) (h1 : ¬ wy1 z u = 0) : tM l yX6_send wsX6_send rx_X6_send_3_1 E A [.ref o, .int (nI u), .int (nI 1)] (fun H => gg E o H ∧ dz E (o + 1) z H) "java/lang/IllegalStateException" := by
  refine t_hd (cc := cX6_send) (maxL := 4) (ret := (some .int)) (by decide) rfl (Nat.le_of_ble_eq_true rfl) ?_
  intro p e s m below meth c ls S hlk hout hK hX hP hl
  have hx := S.1
  have hb := S.2.1
  have hts := S.2.2.2.2
  obtain ⟨hP0, hP1⟩ := hP
  have hl : lv_has ls 4 [(0, .ref o), (1, .int (nI u)), (2, .int (nI 1))] := hl
  have hc20 := iv_c hI
  refine lv_aload_n hx hb dX6_send_0 rfl (lv_at hl 0 rfl) ?_
  refine lv_iload_n hx hb dX6_send_1 rfl (lv_at hl 1 rfl) ?_
  refine k_V (As := [.int (nI u)]) (rest := []) S hK (c_X6_unitNumbered l E o z u hI hu) gX6_send_X6_unitNumbered rfl hd_X6_unitNumbered ⟨rfl, rfl⟩ ⟨Nat.le_of_ble_eq_true rfl, Nat.le_of_ble_eq_true rfl⟩ (k_recv hK hP0 rfl) ⟨hP0, hP1⟩ rfl hl.1 rfl (Nat.le_of_ble_eq_true rfl) dX6_send_2 ⟨Nat.le_of_ble_eq_true rfl, Nat.le_of_ble_eq_true rfl⟩ ?_
  refine lv_astore_n (lv' := [(3, .ref (o + 1 + 2*u + 19)), (0, .ref o), (1, .int (nI u)), (2, .int (nI 1))]) hx hb dX6_send_5 rfl hl (by decide) rfl (fun ls hl => ?_)
  refine lv_iload_n hx hb dX6_send_6 rfl (lv_at hl 3 rfl) ?_
  refine lv_iconst (v := nI 1) hx hb dX6_send_7 (by decide) ?_
  refine lv_iconst (v := nI 4) hx hb dX6_send_8 (by decide) ?_
  refine k_S (As := [.int (nI 1), .int (nI 1), .int (nI 4)]) (rest := []) S hK (c_X6_requireRange l E 1 4 (nI 1) (in_n (by omega) (by omega) (by omega))) gX6_send_X6_requireRange rfl hd_X6_requireRange ⟨rfl, rfl⟩ ⟨Nat.le_of_ble_eq_true rfl, Nat.le_of_ble_eq_true rfl⟩ trivial rfl hl.1 rfl (Nat.le_of_ble_eq_true rfl) dX6_send_9 ⟨Nat.le_of_ble_eq_true rfl, Nat.le_of_ble_eq_true rfl⟩ ?_
  refine lv_aload_n hx hb dX6_send_12 rfl (lv_at hl 1 rfl) ?_
  refine k_get S hK hP0 rfl (fun _ h => List.mem_cons_of_mem _ (List.mem_append_left _ (List.mem_append_left _ (List.mem_append_left _ (List.mem_append_left _ (List.mem_append_left _ (List.mem_append_left _ (List.mem_append_left _ (List.mem_append_left _ (List.mem_append_right _ (h))))))))))) 0 (by decide) (List.mem_cons_of_mem _ (List.mem_append_left _ (List.mem_append_left _ (List.mem_append_left _ (List.mem_append_left _ (List.mem_append_left _ (List.mem_append_left _ (List.mem_append_left _ (List.mem_append_left _ (List.mem_append_left _ (List.mem_append_left _ (List.mem_of_getElem? (i := 2) rfl)))))))))))) rfl (v := .ref (o + 1)) rfl dX6_send_13 ?_
  refine lv_aload_n hx hb dX6_send_16 rfl (lv_at hl 0 rfl) ?_
  refine lv_iload_n hx hb dX6_send_17 rfl (lv_at hl 3 rfl) ?_
  refine k_V (As := [.ref (o + 1 + 2*u + 19), .int (nI 1)]) (rest := []) S hK (c_X1_obstacle_1 l E (o + 1) z u hI hu) gX6_send_X1_obstacle rfl hd_X1_obstacle ⟨rfl, rfl⟩ ⟨Nat.le_of_ble_eq_true rfl, Nat.le_of_ble_eq_true rfl⟩ (k_recv hK (dz_d hP1) rfl) hP1 rfl hl.1 rfl (Nat.le_of_ble_eq_true rfl) dX6_send_18 ⟨Nat.le_of_ble_eq_true rfl, Nat.le_of_ble_eq_true rfl⟩ ?_
  refine lv_if_eq (tgt := 34) hx hb dX6_send_21 (by decide) (fun h => absurd h h1) (fun c21 => ?_)
  exact t_thS2 hlS S hX (List.mem_of_getElem? (i := 5) rfl) (List.mem_cons_of_mem _ (List.mem_append_left _ (List.mem_append_left _ (List.mem_append_left _ (List.mem_append_left _ (List.mem_append_left _ (List.mem_append_left _ (List.mem_append_left _ (List.mem_append_left _ (List.mem_append_left _ (List.mem_append_left _ (List.mem_of_getElem? (i := 0) rfl)))))))))))) (List.mem_cons_of_mem _ (List.mem_append_left _ (List.mem_append_left _ (List.mem_append_left _ (List.mem_append_left _ (List.mem_append_left _ (List.mem_append_left _ (List.mem_append_left _ (List.mem_append_left _ (List.mem_append_left _ (List.mem_append_left _ (List.mem_of_getElem? (i := 1) rfl)))))))))))) (fun _ h => List.mem_cons_of_mem _ (List.mem_append_left _ (List.mem_append_left _ (List.mem_append_right _ (h))))) hl.1 hlk hout dX6_send_24 dX6_send_27 dX6_send_28 dX6_send_30 dX6_send_33 ⟨Nat.le_of_ble_eq_true rfl, Nat.le_of_ble_eq_true rfl, Nat.le_of_ble_eq_true rfl, Nat.le_of_ble_eq_true rfl⟩
def rx_X6_send_3_2 : Room := { frames := 6, cells := 1, slots := 6, locals := 86 }
set_option maxHeartbeats 4000000 in
set_option maxRecDepth 100000 in
theorem x_X6_send_3_2 (l : Launch) (hlS : l.stackTraces = false) (E : ke_E) (A : Nat → Prop) (o : Nat) (z : Nat → Int32) (u : Nat) (hI : iv z) (hu : u < cn z) (h1 : ¬ wy2 z u = 0) : tM l yX6_send wsX6_send rx_X6_send_3_2 E A [.ref o, .int (nI u), .int (nI 2)] (fun H => gg E o H ∧ dz E (o + 1) z H) "java/lang/IllegalStateException" := by
  refine t_hd (cc := cX6_send) (maxL := 4) (ret := (some .int)) (by decide) rfl (Nat.le_of_ble_eq_true rfl) ?_
  intro p e s m below meth c ls S hlk hout hK hX hP hl
  have hx := S.1
  have hb := S.2.1
  have hts := S.2.2.2.2
  obtain ⟨hP0, hP1⟩ := hP
  have hl : lv_has ls 4 [(0, .ref o), (1, .int (nI u)), (2, .int (nI 2))] := hl
  have hc20 := iv_c hI
  refine lv_aload_n hx hb dX6_send_0 rfl (lv_at hl 0 rfl) ?_
  refine lv_iload_n hx hb dX6_send_1 rfl (lv_at hl 1 rfl) ?_
  refine k_V (As := [.int (nI u)]) (rest := []) S hK (c_X6_unitNumbered l E o z u hI hu) gX6_send_X6_unitNumbered rfl hd_X6_unitNumbered ⟨rfl, rfl⟩ ⟨Nat.le_of_ble_eq_true rfl, Nat.le_of_ble_eq_true rfl⟩ (k_recv hK hP0 rfl) ⟨hP0, hP1⟩ rfl hl.1 rfl (Nat.le_of_ble_eq_true rfl) dX6_send_2 ⟨Nat.le_of_ble_eq_true rfl, Nat.le_of_ble_eq_true rfl⟩ ?_
  refine lv_astore_n (lv' := [(3, .ref (o + 1 + 2*u + 19)), (0, .ref o), (1, .int (nI u)), (2, .int (nI 2))]) hx hb dX6_send_5 rfl hl (by decide) rfl (fun ls hl => ?_)
  refine lv_iload_n hx hb dX6_send_6 rfl (lv_at hl 3 rfl) ?_
  refine lv_iconst (v := nI 1) hx hb dX6_send_7 (by decide) ?_
  refine lv_iconst (v := nI 4) hx hb dX6_send_8 (by decide) ?_
  refine k_S (As := [.int (nI 2), .int (nI 1), .int (nI 4)]) (rest := []) S hK (c_X6_requireRange l E 1 4 (nI 2) (in_n (by omega) (by omega) (by omega))) gX6_send_X6_requireRange rfl hd_X6_requireRange ⟨rfl, rfl⟩ ⟨Nat.le_of_ble_eq_true rfl, Nat.le_of_ble_eq_true rfl⟩ trivial rfl hl.1 rfl (Nat.le_of_ble_eq_true rfl) dX6_send_9 ⟨Nat.le_of_ble_eq_true rfl, Nat.le_of_ble_eq_true rfl⟩ ?_
  refine lv_aload_n hx hb dX6_send_12 rfl (lv_at hl 1 rfl) ?_
  refine k_get S hK hP0 rfl (fun _ h => List.mem_cons_of_mem _ (List.mem_append_left _ (List.mem_append_left _ (List.mem_append_left _ (List.mem_append_left _ (List.mem_append_left _ (List.mem_append_left _ (List.mem_append_left _ (List.mem_append_left _ (List.mem_append_right _ (h))))))))))) 0 (by decide) (List.mem_cons_of_mem _ (List.mem_append_left _ (List.mem_append_left _ (List.mem_append_left _ (List.mem_append_left _ (List.mem_append_left _ (List.mem_append_left _ (List.mem_append_left _ (List.mem_append_left _ (List.mem_append_left _ (List.mem_append_left _ (List.mem_of_getElem? (i := 2) rfl)))))))))))) rfl (v := .ref (o + 1)) rfl dX6_send_13 ?_
  refine lv_aload_n hx hb dX6_send_16 rfl (lv_at hl 0 rfl) ?_
  refine lv_iload_n hx hb dX6_send_17 rfl (lv_at hl 3 rfl) ?_
  refine k_V (As := [.ref (o + 1 + 2*u + 19), .int (nI 2)]) (rest := []) S hK (c_X1_obstacle_2 l E (o + 1) z u hI hu) gX6_send_X1_obstacle rfl hd_X1_obstacle ⟨rfl, rfl⟩ ⟨Nat.le_of_ble_eq_true rfl, Nat.le_of_ble_eq_true rfl⟩ (k_recv hK (dz_d hP1) rfl) hP1 rfl hl.1 rfl (Nat.le_of_ble_eq_true rfl) dX6_send_18 ⟨Nat.le_of_ble_eq_true rfl, Nat.le_of_ble_eq_true rfl⟩ ?_
  refine lv_if_eq (tgt := 34) hx hb dX6_send_21 (by decide) (fun h => absurd h h1) (fun c21 => ?_)
  exact t_thS2 hlS S hX (List.mem_of_getElem? (i := 5) rfl) (List.mem_cons_of_mem _ (List.mem_append_left _ (List.mem_append_left _ (List.mem_append_left _ (List.mem_append_left _ (List.mem_append_left _ (List.mem_append_left _ (List.mem_append_left _ (List.mem_append_left _ (List.mem_append_left _ (List.mem_append_left _ (List.mem_of_getElem? (i := 0) rfl)))))))))))) (List.mem_cons_of_mem _ (List.mem_append_left _ (List.mem_append_left _ (List.mem_append_left _ (List.mem_append_left _ (List.mem_append_left _ (List.mem_append_left _ (List.mem_append_left _ (List.mem_append_left _ (List.mem_append_left _ (List.mem_append_left _ (List.mem_of_getElem? (i := 1) rfl)))))))))))) (fun _ h => List.mem_cons_of_mem _ (List.mem_append_left _ (List.mem_append_left _ (List.mem_append_right _ (h))))) hl.1 hlk hout dX6_send_24 dX6_send_27 dX6_send_28 dX6_send_30 dX6_send_33 ⟨Nat.le_of_ble_eq_true rfl, Nat.le_of_ble_eq_true rfl, Nat.le_of_ble_eq_true rfl, Nat.le_of_ble_eq_true rfl⟩
def rx_X6_send_3_3 : Room := { frames := 6, cells := 1, slots := 6, locals := 86 }
set_option maxHeartbeats 4000000 in
set_option maxRecDepth 100000 in
theorem x_X6_send_3_3 (l : Launch) (hlS : l.stackTraces = false) (E : ke_E) (A : Nat → Prop) (o : Nat) (z : Nat → Int32) (u : Nat) (hI : iv z) (hu : u < cn z) (h1 : ¬ wy3 z u = 0) : tM l yX6_send wsX6_send rx_X6_send_3_3 E A [.ref o, .int (nI u), .int (nI 3)] (fun H => gg E o H ∧ dz E (o + 1) z H) "java/lang/IllegalStateException" := by
  refine t_hd (cc := cX6_send) (maxL := 4) (ret := (some .int)) (by decide) rfl (Nat.le_of_ble_eq_true rfl) ?_
  intro p e s m below meth c ls S hlk hout hK hX hP hl
  have hx := S.1
  have hb := S.2.1
  have hts := S.2.2.2.2
  obtain ⟨hP0, hP1⟩ := hP
  have hl : lv_has ls 4 [(0, .ref o), (1, .int (nI u)), (2, .int (nI 3))] := hl
  have hc20 := iv_c hI
  refine lv_aload_n hx hb dX6_send_0 rfl (lv_at hl 0 rfl) ?_
  refine lv_iload_n hx hb dX6_send_1 rfl (lv_at hl 1 rfl) ?_
  refine k_V (As := [.int (nI u)]) (rest := []) S hK (c_X6_unitNumbered l E o z u hI hu) gX6_send_X6_unitNumbered rfl hd_X6_unitNumbered ⟨rfl, rfl⟩ ⟨Nat.le_of_ble_eq_true rfl, Nat.le_of_ble_eq_true rfl⟩ (k_recv hK hP0 rfl) ⟨hP0, hP1⟩ rfl hl.1 rfl (Nat.le_of_ble_eq_true rfl) dX6_send_2 ⟨Nat.le_of_ble_eq_true rfl, Nat.le_of_ble_eq_true rfl⟩ ?_
  refine lv_astore_n (lv' := [(3, .ref (o + 1 + 2*u + 19)), (0, .ref o), (1, .int (nI u)), (2, .int (nI 3))]) hx hb dX6_send_5 rfl hl (by decide) rfl (fun ls hl => ?_)
  refine lv_iload_n hx hb dX6_send_6 rfl (lv_at hl 3 rfl) ?_
  refine lv_iconst (v := nI 1) hx hb dX6_send_7 (by decide) ?_
  refine lv_iconst (v := nI 4) hx hb dX6_send_8 (by decide) ?_
  refine k_S (As := [.int (nI 3), .int (nI 1), .int (nI 4)]) (rest := []) S hK (c_X6_requireRange l E 1 4 (nI 3) (in_n (by omega) (by omega) (by omega))) gX6_send_X6_requireRange rfl hd_X6_requireRange ⟨rfl, rfl⟩ ⟨Nat.le_of_ble_eq_true rfl, Nat.le_of_ble_eq_true rfl⟩ trivial rfl hl.1 rfl (Nat.le_of_ble_eq_true rfl) dX6_send_9 ⟨Nat.le_of_ble_eq_true rfl, Nat.le_of_ble_eq_true rfl⟩ ?_
  refine lv_aload_n hx hb dX6_send_12 rfl (lv_at hl 1 rfl) ?_
  refine k_get S hK hP0 rfl (fun _ h => List.mem_cons_of_mem _ (List.mem_append_left _ (List.mem_append_left _ (List.mem_append_left _ (List.mem_append_left _ (List.mem_append_left _ (List.mem_append_left _ (List.mem_append_left _ (List.mem_append_left _ (List.mem_append_right _ (h))))))))))) 0 (by decide) (List.mem_cons_of_mem _ (List.mem_append_left _ (List.mem_append_left _ (List.mem_append_left _ (List.mem_append_left _ (List.mem_append_left _ (List.mem_append_left _ (List.mem_append_left _ (List.mem_append_left _ (List.mem_append_left _ (List.mem_append_left _ (List.mem_of_getElem? (i := 2) rfl)))))))))))) rfl (v := .ref (o + 1)) rfl dX6_send_13 ?_
  refine lv_aload_n hx hb dX6_send_16 rfl (lv_at hl 0 rfl) ?_
  refine lv_iload_n hx hb dX6_send_17 rfl (lv_at hl 3 rfl) ?_
  refine k_V (As := [.ref (o + 1 + 2*u + 19), .int (nI 3)]) (rest := []) S hK (c_X1_obstacle_3 l E (o + 1) z u hI hu) gX6_send_X1_obstacle rfl hd_X1_obstacle ⟨rfl, rfl⟩ ⟨Nat.le_of_ble_eq_true rfl, Nat.le_of_ble_eq_true rfl⟩ (k_recv hK (dz_d hP1) rfl) hP1 rfl hl.1 rfl (Nat.le_of_ble_eq_true rfl) dX6_send_18 ⟨Nat.le_of_ble_eq_true rfl, Nat.le_of_ble_eq_true rfl⟩ ?_
  refine lv_if_eq (tgt := 34) hx hb dX6_send_21 (by decide) (fun h => absurd h h1) (fun c21 => ?_)
  exact t_thS2 hlS S hX (List.mem_of_getElem? (i := 5) rfl) (List.mem_cons_of_mem _ (List.mem_append_left _ (List.mem_append_left _ (List.mem_append_left _ (List.mem_append_left _ (List.mem_append_left _ (List.mem_append_left _ (List.mem_append_left _ (List.mem_append_left _ (List.mem_append_left _ (List.mem_append_left _ (List.mem_of_getElem? (i := 0) rfl)))))))))))) (List.mem_cons_of_mem _ (List.mem_append_left _ (List.mem_append_left _ (List.mem_append_left _ (List.mem_append_left _ (List.mem_append_left _ (List.mem_append_left _ (List.mem_append_left _ (List.mem_append_left _ (List.mem_append_left _ (List.mem_append_left _ (List.mem_of_getElem? (i := 1) rfl)))))))))))) (fun _ h => List.mem_cons_of_mem _ (List.mem_append_left _ (List.mem_append_left _ (List.mem_append_right _ (h))))) hl.1 hlk hout dX6_send_24 dX6_send_27 dX6_send_28 dX6_send_30 dX6_send_33 ⟨Nat.le_of_ble_eq_true rfl, Nat.le_of_ble_eq_true rfl, Nat.le_of_ble_eq_true rfl, Nat.le_of_ble_eq_true rfl⟩
def rx_X6_send_3_4 : Room := { frames := 6, cells := 1, slots := 6, locals := 86 }
set_option maxHeartbeats 4000000 in
set_option maxRecDepth 100000 in
theorem x_X6_send_3_4 (l : Launch) (hlS : l.stackTraces = false) (E : ke_E) (A : Nat → Prop) (o : Nat) (z : Nat → Int32) (u : Nat) (hI : iv z) (hu : u < cn z) (h1 : ¬ wy4 z u = 0) : tM l yX6_send wsX6_send rx_X6_send_3_4 E A [.ref o, .int (nI u), .int (nI 4)] (fun H => gg E o H ∧ dz E (o + 1) z H) "java/lang/IllegalStateException" := by
  refine t_hd (cc := cX6_send) (maxL := 4) (ret := (some .int)) (by decide) rfl (Nat.le_of_ble_eq_true rfl) ?_
  intro p e s m below meth c ls S hlk hout hK hX hP hl
  have hx := S.1
  have hb := S.2.1
  have hts := S.2.2.2.2
  obtain ⟨hP0, hP1⟩ := hP
  have hl : lv_has ls 4 [(0, .ref o), (1, .int (nI u)), (2, .int (nI 4))] := hl
  have hc20 := iv_c hI
  refine lv_aload_n hx hb dX6_send_0 rfl (lv_at hl 0 rfl) ?_
  refine lv_iload_n hx hb dX6_send_1 rfl (lv_at hl 1 rfl) ?_
  refine k_V (As := [.int (nI u)]) (rest := []) S hK (c_X6_unitNumbered l E o z u hI hu) gX6_send_X6_unitNumbered rfl hd_X6_unitNumbered ⟨rfl, rfl⟩ ⟨Nat.le_of_ble_eq_true rfl, Nat.le_of_ble_eq_true rfl⟩ (k_recv hK hP0 rfl) ⟨hP0, hP1⟩ rfl hl.1 rfl (Nat.le_of_ble_eq_true rfl) dX6_send_2 ⟨Nat.le_of_ble_eq_true rfl, Nat.le_of_ble_eq_true rfl⟩ ?_
  refine lv_astore_n (lv' := [(3, .ref (o + 1 + 2*u + 19)), (0, .ref o), (1, .int (nI u)), (2, .int (nI 4))]) hx hb dX6_send_5 rfl hl (by decide) rfl (fun ls hl => ?_)
  refine lv_iload_n hx hb dX6_send_6 rfl (lv_at hl 3 rfl) ?_
  refine lv_iconst (v := nI 1) hx hb dX6_send_7 (by decide) ?_
  refine lv_iconst (v := nI 4) hx hb dX6_send_8 (by decide) ?_
  refine k_S (As := [.int (nI 4), .int (nI 1), .int (nI 4)]) (rest := []) S hK (c_X6_requireRange l E 1 4 (nI 4) (in_n (by omega) (by omega) (by omega))) gX6_send_X6_requireRange rfl hd_X6_requireRange ⟨rfl, rfl⟩ ⟨Nat.le_of_ble_eq_true rfl, Nat.le_of_ble_eq_true rfl⟩ trivial rfl hl.1 rfl (Nat.le_of_ble_eq_true rfl) dX6_send_9 ⟨Nat.le_of_ble_eq_true rfl, Nat.le_of_ble_eq_true rfl⟩ ?_
  refine lv_aload_n hx hb dX6_send_12 rfl (lv_at hl 1 rfl) ?_
  refine k_get S hK hP0 rfl (fun _ h => List.mem_cons_of_mem _ (List.mem_append_left _ (List.mem_append_left _ (List.mem_append_left _ (List.mem_append_left _ (List.mem_append_left _ (List.mem_append_left _ (List.mem_append_left _ (List.mem_append_left _ (List.mem_append_right _ (h))))))))))) 0 (by decide) (List.mem_cons_of_mem _ (List.mem_append_left _ (List.mem_append_left _ (List.mem_append_left _ (List.mem_append_left _ (List.mem_append_left _ (List.mem_append_left _ (List.mem_append_left _ (List.mem_append_left _ (List.mem_append_left _ (List.mem_append_left _ (List.mem_of_getElem? (i := 2) rfl)))))))))))) rfl (v := .ref (o + 1)) rfl dX6_send_13 ?_
  refine lv_aload_n hx hb dX6_send_16 rfl (lv_at hl 0 rfl) ?_
  refine lv_iload_n hx hb dX6_send_17 rfl (lv_at hl 3 rfl) ?_
  refine k_V (As := [.ref (o + 1 + 2*u + 19), .int (nI 4)]) (rest := []) S hK (c_X1_obstacle_4 l E (o + 1) z u hI hu) gX6_send_X1_obstacle rfl hd_X1_obstacle ⟨rfl, rfl⟩ ⟨Nat.le_of_ble_eq_true rfl, Nat.le_of_ble_eq_true rfl⟩ (k_recv hK (dz_d hP1) rfl) hP1 rfl hl.1 rfl (Nat.le_of_ble_eq_true rfl) dX6_send_18 ⟨Nat.le_of_ble_eq_true rfl, Nat.le_of_ble_eq_true rfl⟩ ?_
  refine lv_if_eq (tgt := 34) hx hb dX6_send_21 (by decide) (fun h => absurd h h1) (fun c21 => ?_)
  exact t_thS2 hlS S hX (List.mem_of_getElem? (i := 5) rfl) (List.mem_cons_of_mem _ (List.mem_append_left _ (List.mem_append_left _ (List.mem_append_left _ (List.mem_append_left _ (List.mem_append_left _ (List.mem_append_left _ (List.mem_append_left _ (List.mem_append_left _ (List.mem_append_left _ (List.mem_append_left _ (List.mem_of_getElem? (i := 0) rfl)))))))))))) (List.mem_cons_of_mem _ (List.mem_append_left _ (List.mem_append_left _ (List.mem_append_left _ (List.mem_append_left _ (List.mem_append_left _ (List.mem_append_left _ (List.mem_append_left _ (List.mem_append_left _ (List.mem_append_left _ (List.mem_append_left _ (List.mem_of_getElem? (i := 1) rfl)))))))))))) (fun _ h => List.mem_cons_of_mem _ (List.mem_append_left _ (List.mem_append_left _ (List.mem_append_right _ (h))))) hl.1 hlk hout dX6_send_24 dX6_send_27 dX6_send_28 dX6_send_30 dX6_send_33 ⟨Nat.le_of_ble_eq_true rfl, Nat.le_of_ble_eq_true rfl, Nat.le_of_ble_eq_true rfl, Nat.le_of_ble_eq_true rfl⟩
def rx_X6_pass_1 : Room := { frames := 7, cells := 1, slots := 6, locals := 104 }
set_option maxHeartbeats 4000000 in
set_option maxRecDepth 100000 in
theorem x_X6_pass_1 (l : Launch) (hlS : l.stackTraces = false) (E : ke_E) (A : Nat → Prop) (o : Nat) (z : Nat → Int32) (y : Int32) (hI : iv z) (h1 : ¬ (nI 1 ≤ y ∧ y ≤ nI 30)) : tM l yX6_pass wsX6_pass rx_X6_pass_1 E A [.ref o, .int y] (fun H => gg E o H ∧ dz E (o + 1) z H) "java/lang/IllegalArgumentException" := by
  refine t_hd (cc := cX6_pass) (maxL := 4) (ret := (some .int)) (by decide) rfl (Nat.le_of_ble_eq_true rfl) ?_
  intro p e s m below meth c ls S hlk hout hK hX hP hl
  have hx := S.1
  have hb := S.2.1
  have hts := S.2.2.2.2
  obtain ⟨hP0, hP1⟩ := hP
  have hl : lv_has ls 4 [(0, .ref o), (1, .int y)] := hl
  have hc20 := iv_c hI
  refine lv_iload_n hx hb dX6_pass_0 rfl (lv_at hl 1 rfl) ?_
  refine lv_iconst (v := nI 1) hx hb dX6_pass_1 (by decide) ?_
  refine lv_bipush (v := nI 30) hx hb dX6_pass_2 (by decide) ?_
  exact t_S (As := [.int y, .int (nI 1), .int (nI 30)]) (rest := []) S hK hX (x_X6_requireRange l hlS E A 1 30 y h1) gX6_pass_X6_requireRange rfl hd_X6_requireRange ⟨rfl, rfl⟩ ⟨Nat.le_of_ble_eq_true rfl, Nat.le_of_ble_eq_true rfl⟩ trivial rfl hl.1 rfl (Nat.le_of_ble_eq_true rfl) dX6_pass_4 ⟨Nat.le_of_ble_eq_true rfl, Nat.le_of_ble_eq_true rfl⟩ hout hlk
def rx_X6_pass_2 : Room := { frames := 6, cells := 1, slots := 6, locals := 82 }
set_option maxHeartbeats 4000000 in
set_option maxRecDepth 100000 in
theorem x_X6_pass_2 (l : Launch) (hlS : l.stackTraces = false) (E : ke_E) (A : Nat → Prop) (o : Nat) (z : Nat → Int32) (n : Nat) (hI : iv z) (hn1 : 1 ≤ n) (hn30 : n ≤ 30) (h1 : ¬ z 1 + nI n ≤ nI 2000) : tM l yX6_pass wsX6_pass rx_X6_pass_2 E A [.ref o, .int (nI n)] (fun H => gg E o H ∧ dz E (o + 1) z H) "java/lang/IllegalStateException" := by
  refine t_hd (cc := cX6_pass) (maxL := 4) (ret := (some .int)) (by decide) rfl (Nat.le_of_ble_eq_true rfl) ?_
  intro p e s m below meth c ls S hlk hout hK hX hP hl
  have hx := S.1
  have hb := S.2.1
  have hts := S.2.2.2.2
  obtain ⟨hP0, hP1⟩ := hP
  have hl : lv_has ls 4 [(0, .ref o), (1, .int (nI n))] := hl
  have hc20 := iv_c hI
  refine lv_iload_n hx hb dX6_pass_0 rfl (lv_at hl 1 rfl) ?_
  refine lv_iconst (v := nI 1) hx hb dX6_pass_1 (by decide) ?_
  refine lv_bipush (v := nI 30) hx hb dX6_pass_2 (by decide) ?_
  refine k_S (As := [.int (nI n), .int (nI 1), .int (nI 30)]) (rest := []) S hK (c_X6_requireRange l E 1 30 (nI n) (in_n (by omega) (by omega) (by omega))) gX6_pass_X6_requireRange rfl hd_X6_requireRange ⟨rfl, rfl⟩ ⟨Nat.le_of_ble_eq_true rfl, Nat.le_of_ble_eq_true rfl⟩ trivial rfl hl.1 rfl (Nat.le_of_ble_eq_true rfl) dX6_pass_4 ⟨Nat.le_of_ble_eq_true rfl, Nat.le_of_ble_eq_true rfl⟩ ?_
  refine lv_aload_n hx hb dX6_pass_7 rfl (lv_at hl 0 rfl) ?_
  refine k_get S hK hP0 rfl (fun _ h => List.mem_cons_of_mem _ (List.mem_append_left _ (List.mem_append_left _ (List.mem_append_left _ (List.mem_append_left _ (List.mem_append_left _ (List.mem_append_left _ (List.mem_append_left _ (List.mem_append_right _ (h)))))))))) 0 (by decide) (List.mem_cons_of_mem _ (List.mem_append_left _ (List.mem_append_left _ (List.mem_append_left _ (List.mem_append_left _ (List.mem_append_left _ (List.mem_append_left _ (List.mem_append_left _ (List.mem_append_left _ (List.mem_append_left _ (List.mem_of_getElem? (i := 2) rfl))))))))))) rfl (v := .ref (o + 1)) rfl dX6_pass_8 ?_
  refine k_get S hK (dz_d hP1) rfl (fun _ h => List.mem_cons_of_mem _ (List.mem_append_left _ (List.mem_append_left _ (List.mem_append_left _ (List.mem_append_left _ (List.mem_append_left _ (List.mem_append_left _ (List.mem_append_right _ (h))))))))) 5 (by decide) (List.mem_cons_of_mem _ (List.mem_append_left _ (List.mem_append_left _ (List.mem_append_left _ (List.mem_append_left _ (List.mem_append_left _ (List.mem_append_left _ (List.mem_append_left _ (List.mem_append_left _ (List.mem_append_left _ (List.mem_of_getElem? (i := 3) rfl))))))))))) rfl (v := .int (z 1)) rfl dX6_pass_11 ?_
  refine lv_iload_n hx hb dX6_pass_14 rfl (lv_at hl 1 rfl) ?_
  refine lv_iadd hx hb dX6_pass_15 ?_
  refine lv_sipush (v := nI 2000) hx hb dX6_pass_16 (by decide) ?_
  refine lv_icmp_le (tgt := 32) hx hb dX6_pass_19 (by decide) (fun h => absurd h h1) (fun c19 => ?_)
  exact t_thS2 hlS S hX (List.mem_of_getElem? (i := 6) rfl) (List.mem_cons_of_mem _ (List.mem_append_left _ (List.mem_append_left _ (List.mem_append_left _ (List.mem_append_left _ (List.mem_append_left _ (List.mem_append_left _ (List.mem_append_left _ (List.mem_append_left _ (List.mem_append_left _ (List.mem_of_getElem? (i := 0) rfl))))))))))) (List.mem_cons_of_mem _ (List.mem_append_left _ (List.mem_append_left _ (List.mem_append_left _ (List.mem_append_left _ (List.mem_append_left _ (List.mem_append_left _ (List.mem_append_left _ (List.mem_append_left _ (List.mem_append_left _ (List.mem_of_getElem? (i := 1) rfl))))))))))) (fun _ h => List.mem_cons_of_mem _ (List.mem_append_left _ (List.mem_append_right _ (h)))) hl.1 hlk hout dX6_pass_22 dX6_pass_25 dX6_pass_26 dX6_pass_28 dX6_pass_31 ⟨Nat.le_of_ble_eq_true rfl, Nat.le_of_ble_eq_true rfl, Nat.le_of_ble_eq_true rfl, Nat.le_of_ble_eq_true rfl⟩
def rx_X6_claim_1 : Room := { frames := 7, cells := 1, slots := 6, locals := 103 }
set_option maxHeartbeats 4000000 in
set_option maxRecDepth 100000 in
theorem x_X6_claim_1 (l : Launch) (hlS : l.stackTraces = false) (E : ke_E) (A : Nat → Prop) (o : Nat) (z : Nat → Int32) (x : Int32) (hI : iv z) (h1 : ¬ inR x (cn z)) : tM l yX6_claim wsX6_claim rx_X6_claim_1 E A [.ref o, .int x] (fun H => gg E o H ∧ dz E (o + 1) z H) "java/lang/IndexOutOfBoundsException" := by
  refine t_hd (cc := cX6_claim) (maxL := 3) (ret := (some .int)) (by decide) rfl (Nat.le_of_ble_eq_true rfl) ?_
  intro p e s m below meth c ls S hlk hout hK hX hP hl
  have hx := S.1
  have hb := S.2.1
  have hts := S.2.2.2.2
  obtain ⟨hP0, hP1⟩ := hP
  have hl : lv_has ls 3 [(0, .ref o), (1, .int x)] := hl
  have hc20 := iv_c hI
  refine lv_aload_n hx hb dX6_claim_0 rfl (lv_at hl 0 rfl) ?_
  refine lv_iload_n hx hb dX6_claim_1 rfl (lv_at hl 1 rfl) ?_
  exact t_V (As := [.int x]) (rest := []) S hK hX (x_X6_unitNumbered l hlS E A o z x hI h1) gX6_claim_X6_unitNumbered rfl hd_X6_unitNumbered ⟨rfl, rfl⟩ ⟨Nat.le_of_ble_eq_true rfl, Nat.le_of_ble_eq_true rfl⟩ (k_recv hK hP0 rfl) ⟨hP0, hP1⟩ rfl hl.1 rfl (Nat.le_of_ble_eq_true rfl) dX6_claim_2 ⟨Nat.le_of_ble_eq_true rfl, Nat.le_of_ble_eq_true rfl⟩ hout hlk
theorem sC_le {b : Nat → Int32} : ∀ n, sC b n ≤ n
  | 0 => Nat.le_refl _
  | n + 1 => by
    have := sC_le (b := b) n
    show sC b n + (if b n = nI 59 then 1 else 0) ≤ n + 1
    split <;> omega
theorem her_1 {z : Nat → Int32} {u : Nat} (h : her z u) : z (13*u + 68) ≤ nI 1 := by
  rcases h with h | h
  · rw [h]; decide
  · rw [h]; decide
def rx_X6_claim_2 : Room := { frames := 6, cells := 1, slots := 6, locals := 82 }
set_option maxHeartbeats 4000000 in
set_option maxRecDepth 100000 in
theorem x_X6_claim_2 (l : Launch) (hlS : l.stackTraces = false) (E : ke_E) (A : Nat → Prop) (o : Nat) (z : Nat → Int32) (u : Nat) (hI : iv z) (hu : u < cn z) (h1 : ¬ clOK z u) : tM l yX6_claim wsX6_claim rx_X6_claim_2 E A [.ref o, .int (nI u)] (fun H => gg E o H ∧ dz E (o + 1) z H) "java/lang/IllegalStateException" := by
  refine t_hd (cc := cX6_claim) (maxL := 3) (ret := (some .int)) (by decide) rfl (Nat.le_of_ble_eq_true rfl) ?_
  intro p e s m below meth c ls S hlk hout hK hX hP hl
  have hx := S.1
  have hb := S.2.1
  have hts := S.2.2.2.2
  obtain ⟨hP0, hP1⟩ := hP
  have hl : lv_has ls 3 [(0, .ref o), (1, .int (nI u))] := hl
  have hc20 := iv_c hI
  refine lv_aload_n hx hb dX6_claim_0 rfl (lv_at hl 0 rfl) ?_
  refine lv_iload_n hx hb dX6_claim_1 rfl (lv_at hl 1 rfl) ?_
  refine k_V (As := [.int (nI u)]) (rest := []) S hK (c_X6_unitNumbered l E o z u hI hu) gX6_claim_X6_unitNumbered rfl hd_X6_unitNumbered ⟨rfl, rfl⟩ ⟨Nat.le_of_ble_eq_true rfl, Nat.le_of_ble_eq_true rfl⟩ (k_recv hK hP0 rfl) ⟨hP0, hP1⟩ rfl hl.1 rfl (Nat.le_of_ble_eq_true rfl) dX6_claim_2 ⟨Nat.le_of_ble_eq_true rfl, Nat.le_of_ble_eq_true rfl⟩ ?_
  refine lv_astore_n (lv' := [(2, .ref (o + 1 + 2*u + 19)), (0, .ref o), (1, .int (nI u))]) hx hb dX6_claim_5 rfl hl (by decide) rfl (fun ls hl => ?_)
  refine lv_aload_n hx hb dX6_claim_6 rfl (lv_at hl 0 rfl) ?_
  refine k_V (As := []) (rest := []) S hK (c_X4_isHere l E (o + 1) z u hu) gX6_claim_X4_isHere rfl hd_X4_isHere ⟨rfl, rfl⟩ ⟨Nat.le_of_ble_eq_true rfl, Nat.le_of_ble_eq_true rfl⟩ (k_recv hK (dz_u hP1 u hu) rfl) hP1 rfl hl.1 rfl (Nat.le_of_ble_eq_true rfl) dX6_claim_7 ⟨Nat.le_of_ble_eq_true rfl, Nat.le_of_ble_eq_true rfl⟩ ?_
  refine b_eq (tgt := 27) hx hb dX6_claim_10 (by decide) (fun c10 => ?_) (fun c10 => ?_)
  · exact t_thS2 hlS S hX (List.mem_of_getElem? (i := 7) rfl) (List.mem_cons_of_mem _ (List.mem_append_left _ (List.mem_append_left _ (List.mem_append_left _ (List.mem_append_left _ (List.mem_append_left _ (List.mem_append_left _ (List.mem_append_left _ (List.mem_append_left _ (List.mem_append_left _ (List.mem_of_getElem? (i := 0) rfl))))))))))) (List.mem_cons_of_mem _ (List.mem_append_left _ (List.mem_append_left _ (List.mem_append_left _ (List.mem_append_left _ (List.mem_append_left _ (List.mem_append_left _ (List.mem_append_left _ (List.mem_append_left _ (List.mem_append_left _ (List.mem_of_getElem? (i := 1) rfl))))))))))) (fun _ h => List.mem_cons_of_mem _ (List.mem_append_left _ (List.mem_append_right _ (h)))) hl.1 hlk hout dX6_claim_27 dX6_claim_30 dX6_claim_31 dX6_claim_33 dX6_claim_36 ⟨Nat.le_of_ble_eq_true rfl, Nat.le_of_ble_eq_true rfl, Nat.le_of_ble_eq_true rfl, Nat.le_of_ble_eq_true rfl⟩
  · refine lv_aload_n hx hb dX6_claim_13 rfl (lv_at hl 0 rfl) ?_
    refine k_V (As := []) (rest := []) S hK (c_X4_isTested l E (o + 1) z u hu hI) gX6_claim_X4_isTested rfl hd_X4_isTested ⟨rfl, rfl⟩ ⟨Nat.le_of_ble_eq_true rfl, Nat.le_of_ble_eq_true rfl⟩ (k_recv hK (dz_u hP1 u hu) rfl) hP1 rfl hl.1 rfl (Nat.le_of_ble_eq_true rfl) dX6_claim_14 ⟨Nat.le_of_ble_eq_true rfl, Nat.le_of_ble_eq_true rfl⟩ ?_
    refine b_eq (tgt := 27) hx hb dX6_claim_17 (by decide) (fun c17 => ?_) (fun c17 => ?_)
    · exact t_thS2 hlS S hX (List.mem_of_getElem? (i := 7) rfl) (List.mem_cons_of_mem _ (List.mem_append_left _ (List.mem_append_left _ (List.mem_append_left _ (List.mem_append_left _ (List.mem_append_left _ (List.mem_append_left _ (List.mem_append_left _ (List.mem_append_left _ (List.mem_append_left _ (List.mem_of_getElem? (i := 0) rfl))))))))))) (List.mem_cons_of_mem _ (List.mem_append_left _ (List.mem_append_left _ (List.mem_append_left _ (List.mem_append_left _ (List.mem_append_left _ (List.mem_append_left _ (List.mem_append_left _ (List.mem_append_left _ (List.mem_append_left _ (List.mem_of_getElem? (i := 1) rfl))))))))))) (fun _ h => List.mem_cons_of_mem _ (List.mem_append_left _ (List.mem_append_right _ (h)))) hl.1 hlk hout dX6_claim_27 dX6_claim_30 dX6_claim_31 dX6_claim_33 dX6_claim_36 ⟨Nat.le_of_ble_eq_true rfl, Nat.le_of_ble_eq_true rfl, Nat.le_of_ble_eq_true rfl, Nat.le_of_ble_eq_true rfl⟩
    · refine lv_aload_n hx hb dX6_claim_20 rfl (lv_at hl 0 rfl) ?_
      refine k_V (As := []) (rest := []) S hK (c_X4_hasClaim l E (o + 1) z u hu) gX6_claim_X4_hasClaim rfl hd_X4_hasClaim ⟨rfl, rfl⟩ ⟨Nat.le_of_ble_eq_true rfl, Nat.le_of_ble_eq_true rfl⟩ (k_recv hK (dz_u hP1 u hu) rfl) hP1 rfl hl.1 rfl (Nat.le_of_ble_eq_true rfl) dX6_claim_21 ⟨Nat.le_of_ble_eq_true rfl, Nat.le_of_ble_eq_true rfl⟩ ?_
      refine b_eq (tgt := 37) hx hb dX6_claim_24 (by decide) (fun h => absurd h (fun q => h1 ⟨her_1 c10, c17, nn q⟩)) (fun c24 => ?_)
      exact t_thS2 hlS S hX (List.mem_of_getElem? (i := 7) rfl) (List.mem_cons_of_mem _ (List.mem_append_left _ (List.mem_append_left _ (List.mem_append_left _ (List.mem_append_left _ (List.mem_append_left _ (List.mem_append_left _ (List.mem_append_left _ (List.mem_append_left _ (List.mem_append_left _ (List.mem_of_getElem? (i := 0) rfl))))))))))) (List.mem_cons_of_mem _ (List.mem_append_left _ (List.mem_append_left _ (List.mem_append_left _ (List.mem_append_left _ (List.mem_append_left _ (List.mem_append_left _ (List.mem_append_left _ (List.mem_append_left _ (List.mem_append_left _ (List.mem_of_getElem? (i := 1) rfl))))))))))) (fun _ h => List.mem_cons_of_mem _ (List.mem_append_left _ (List.mem_append_right _ (h)))) hl.1 hlk hout dX6_claim_27 dX6_claim_30 dX6_claim_31 dX6_claim_33 dX6_claim_36 ⟨Nat.le_of_ble_eq_true rfl, Nat.le_of_ble_eq_true rfl, Nat.le_of_ble_eq_true rfl, Nat.le_of_ble_eq_true rfl⟩
def rx_X6_append_1 : Room := { frames := 7, cells := 1, slots := 6, locals := 104 }
set_option maxHeartbeats 4000000 in
set_option maxRecDepth 100000 in
theorem x_X6_append_1 (l : Launch) (hlS : l.stackTraces = false) (E : ke_E) (A : Nat → Prop) (o : Nat) (z : Nat → Int32) (bn : Nat) (f : Nat → Int32) (y : Int32) (h1 : ¬ (nI 33 ≤ y ∧ y ≤ nI 126)) : tM l yX6_append wsX6_append rx_X6_append_1 E A [.ref o, .int y] (fun H => gg E o H ∧ bo E (o + 475) bn (auE (au f bn)) (auS (au f bn)) f H) "java/lang/IllegalArgumentException" := by
  refine t_hd (cc := cX6_append) (maxL := 2) (ret := (some .int)) (by decide) rfl (Nat.le_of_ble_eq_true rfl) ?_
  intro p e s m below meth c ls S hlk hout hK hX hP hl
  have hx := S.1
  have hb := S.2.1
  have hts := S.2.2.2.2
  obtain ⟨hP0, hP1⟩ := hP
  have hl : lv_has ls 2 [(0, .ref o), (1, .int y)] := hl
  refine lv_iload_n hx hb dX6_append_0 rfl (lv_at hl 1 rfl) ?_
  refine lv_bipush (v := nI 33) hx hb dX6_append_1 (by decide) ?_
  refine lv_bipush (v := nI 126) hx hb dX6_append_3 (by decide) ?_
  exact t_S (As := [.int y, .int (nI 33), .int (nI 126)]) (rest := []) S hK hX (x_X6_requireRange l hlS E A 33 126 y h1) gX6_append_X6_requireRange rfl hd_X6_requireRange ⟨rfl, rfl⟩ ⟨Nat.le_of_ble_eq_true rfl, Nat.le_of_ble_eq_true rfl⟩ trivial rfl hl.1 rfl (Nat.le_of_ble_eq_true rfl) dX6_append_5 ⟨Nat.le_of_ble_eq_true rfl, Nat.le_of_ble_eq_true rfl⟩ hout hlk
def rx_X6_append_2 : Room := { frames := 6, cells := 1, slots := 6, locals := 82 }
set_option maxHeartbeats 4000000 in
set_option maxRecDepth 100000 in
theorem x_X6_append_2 (l : Launch) (hlS : l.stackTraces = false) (E : ke_E) (A : Nat → Prop) (o : Nat) (z : Nat → Int32) (bn : Nat) (f : Nat → Int32) (y : Int32) (h1 : nI 33 ≤ y ∧ y ≤ nI 126) (hbn : bn = 60) : tM l yX6_append wsX6_append rx_X6_append_2 E A [.ref o, .int y] (fun H => gg E o H ∧ bo E (o + 475) bn (auE (au f bn)) (auS (au f bn)) f H) "java/lang/IllegalStateException" := by
  refine t_hd (cc := cX6_append) (maxL := 2) (ret := (some .int)) (by decide) rfl (Nat.le_of_ble_eq_true rfl) ?_
  intro p e s m below meth c ls S hlk hout hK hX hP hl
  have hx := S.1
  have hb := S.2.1
  have hts := S.2.2.2.2
  obtain ⟨hP0, hP1⟩ := hP
  have hl : lv_has ls 2 [(0, .ref o), (1, .int y)] := hl
  refine lv_iload_n hx hb dX6_append_0 rfl (lv_at hl 1 rfl) ?_
  refine lv_bipush (v := nI 33) hx hb dX6_append_1 (by decide) ?_
  refine lv_bipush (v := nI 126) hx hb dX6_append_3 (by decide) ?_
  refine k_S (As := [.int y, .int (nI 33), .int (nI 126)]) (rest := []) S hK (c_X6_requireRange l E 33 126 y h1) gX6_append_X6_requireRange rfl hd_X6_requireRange ⟨rfl, rfl⟩ ⟨Nat.le_of_ble_eq_true rfl, Nat.le_of_ble_eq_true rfl⟩ trivial rfl hl.1 rfl (Nat.le_of_ble_eq_true rfl) dX6_append_5 ⟨Nat.le_of_ble_eq_true rfl, Nat.le_of_ble_eq_true rfl⟩ ?_
  refine lv_aload_n hx hb dX6_append_8 rfl (lv_at hl 0 rfl) ?_
  refine k_get S hK hP0 rfl (fun _ h => List.mem_cons_of_mem _ (List.mem_append_left _ (List.mem_append_left _ (List.mem_append_left _ (List.mem_append_right _ (h)))))) 3 (by decide) (List.mem_cons_of_mem _ (List.mem_append_left _ (List.mem_append_left _ (List.mem_append_left _ (List.mem_append_left _ (List.mem_append_left _ (List.mem_of_getElem? (i := 2) rfl))))))) rfl (v := .ref (o + 475)) rfl dX6_append_9 ?_
  refine k_get S hK hP1.1 rfl (fun _ h => List.mem_cons_of_mem _ (List.mem_append_left _ (List.mem_append_left _ (List.mem_append_right _ (h))))) 1 (by decide) (List.mem_cons_of_mem _ (List.mem_append_left _ (List.mem_append_left _ (List.mem_append_left _ (List.mem_append_left _ (List.mem_append_left _ (List.mem_of_getElem? (i := 3) rfl))))))) rfl (v := .int (nI bn)) rfl dX6_append_12 ?_
  refine lv_bipush (v := nI 60) hx hb dX6_append_15 (by decide) ?_
  refine n_ilt (tgt := 30) hx hb dX6_append_17 (by decide) (by omega) (by omega) (fun h => absurd h (by omega)) (fun c17 => ?_)
  exact t_thS2 hlS S hX (List.mem_of_getElem? (i := 8) rfl) (List.mem_cons_of_mem _ (List.mem_append_left _ (List.mem_append_left _ (List.mem_append_left _ (List.mem_append_left _ (List.mem_append_left _ (List.mem_of_getElem? (i := 0) rfl))))))) (List.mem_cons_of_mem _ (List.mem_append_left _ (List.mem_append_left _ (List.mem_append_left _ (List.mem_append_left _ (List.mem_append_left _ (List.mem_of_getElem? (i := 1) rfl))))))) (fun _ h => List.mem_cons_of_mem _ (List.mem_append_left _ (List.mem_append_right _ (h)))) hl.1 hlk hout dX6_append_20 dX6_append_23 dX6_append_24 dX6_append_26 dX6_append_29 ⟨Nat.le_of_ble_eq_true rfl, Nat.le_of_ble_eq_true rfl, Nat.le_of_ble_eq_true rfl, Nat.le_of_ble_eq_true rfl⟩
def rx_X6_receiveAll_1 : Room := { frames := 6, cells := 1, slots := 6, locals := 82 }
set_option maxHeartbeats 4000000 in
set_option maxRecDepth 100000 in
theorem x_X6_receiveAll_1 (l : Launch) (hlS : l.stackTraces = false) (E : ke_E) (A : Nat → Prop) (o : Nat) (z : Nat → Int32) (bn : Nat) (f : Nat → Int32) (hI : iv z) (h1 : ¬ (au f bn = .inl 4 ∨ au f bn = .inl 9)) : tM l yX6_receiveAll wsX6_receiveAll rx_X6_receiveAll_1 E A [.ref o] (fun H => gg E o H ∧ dz E (o + 1) z H ∧ bo E (o + 475) bn (auE (au f bn)) (auS (au f bn)) f H) "java/lang/IllegalArgumentException" := by
  refine t_hd (cc := cX6_receiveAll) (maxL := 1) (ret := (some .int)) (by decide) rfl (Nat.le_of_ble_eq_true rfl) ?_
  intro p e s m below meth c ls S hlk hout hK hX hP hl
  have hx := S.1
  have hb := S.2.1
  have hts := S.2.2.2.2
  obtain ⟨hP0, hP1, hP2⟩ := hP
  have hl : lv_has ls 1 [(0, .ref o)] := hl
  have hc20 := iv_c hI
  refine lv_aload_n hx hb dX6_receiveAll_0 rfl (lv_at hl 0 rfl) ?_
  refine k_get S hK hP0 rfl (fun _ h => List.mem_cons_of_mem _ (List.mem_append_left _ (List.mem_append_left _ (List.mem_append_left _ (List.mem_append_left _ (List.mem_append_left _ (List.mem_append_left _ (List.mem_append_left _ (List.mem_append_left _ (List.mem_append_right _ (h))))))))))) 3 (by decide) (List.mem_cons_of_mem _ (List.mem_append_left _ (List.mem_append_left _ (List.mem_append_left _ (List.mem_append_left _ (List.mem_append_left _ (List.mem_append_left _ (List.mem_append_left _ (List.mem_append_left _ (List.mem_append_left _ (List.mem_append_left _ (List.mem_of_getElem? (i := 4) rfl)))))))))))) rfl (v := .ref (o + 475)) rfl dX6_receiveAll_1 ?_
  refine k_V (As := []) (rest := []) S hK (c_X0_isComplete l E (o + 475) bn f) gX6_receiveAll_X0_isComplete rfl hd_X0_isComplete ⟨rfl, rfl⟩ ⟨Nat.le_of_ble_eq_true rfl, Nat.le_of_ble_eq_true rfl⟩ (k_recv hK hP2.1 rfl) hP2 rfl hl.1 rfl (Nat.le_of_ble_eq_true rfl) dX6_receiveAll_4 ⟨Nat.le_of_ble_eq_true rfl, Nat.le_of_ble_eq_true rfl⟩ ?_
  refine b_ne (tgt := 20) hx hb dX6_receiveAll_7 (by decide) (fun h => absurd h h1) (fun c7 => ?_)
  exact t_thS1 hlS S hX (List.mem_of_getElem? (i := 9) rfl) (List.mem_cons_of_mem _ (List.mem_append_left _ (List.mem_append_left _ (List.mem_append_left _ (List.mem_append_left _ (List.mem_append_left _ (List.mem_append_left _ (List.mem_append_left _ (List.mem_append_left _ (List.mem_append_left _ (List.mem_append_left _ (List.mem_of_getElem? (i := 0) rfl)))))))))))) (List.mem_cons_of_mem _ (List.mem_append_left _ (List.mem_append_left _ (List.mem_append_left _ (List.mem_append_left _ (List.mem_append_left _ (List.mem_append_left _ (List.mem_append_left _ (List.mem_append_left _ (List.mem_append_left _ (List.mem_append_left _ (List.mem_of_getElem? (i := 1) rfl)))))))))))) (fun _ h => List.mem_cons_of_mem _ (List.mem_append_left _ (List.mem_append_right _ (h)))) hl.1 hlk hout dX6_receiveAll_10 dX6_receiveAll_13 dX6_receiveAll_14 dX6_receiveAll_16 dX6_receiveAll_19 ⟨Nat.le_of_ble_eq_true rfl, Nat.le_of_ble_eq_true rfl, Nat.le_of_ble_eq_true rfl, Nat.le_of_ble_eq_true rfl⟩
def rx_X6_receiveAll_2 : Room := { frames := 6, cells := 1, slots := 6, locals := 82 }
set_option maxHeartbeats 4000000 in
set_option maxRecDepth 100000 in
theorem x_X6_receiveAll_2 (l : Launch) (hlS : l.stackTraces = false) (E : ke_E) (A : Nat → Prop) (o : Nat) (z : Nat → Int32) (bn : Nat) (f : Nat → Int32) (hI : iv z) (h1 : au f bn = .inl 4 ∨ au f bn = .inl 9) (hbn : bn ≤ 60) (h2 : 20 < cn z + sC f bn + 1) : tM l yX6_receiveAll wsX6_receiveAll rx_X6_receiveAll_2 E A [.ref o] (fun H => gg E o H ∧ dz E (o + 1) z H ∧ bo E (o + 475) bn (auE (au f bn)) (auS (au f bn)) f H) "java/lang/IllegalStateException" := by
  refine t_hd (cc := cX6_receiveAll) (maxL := 1) (ret := (some .int)) (by decide) rfl (Nat.le_of_ble_eq_true rfl) ?_
  intro p e s m below meth c ls S hlk hout hK hX hP hl
  have hx := S.1
  have hb := S.2.1
  have hts := S.2.2.2.2
  obtain ⟨hP0, hP1, hP2⟩ := hP
  have hl : lv_has ls 1 [(0, .ref o)] := hl
  have hc20 := iv_c hI
  have hsl := sC_le (b := f) bn
  refine lv_aload_n hx hb dX6_receiveAll_0 rfl (lv_at hl 0 rfl) ?_
  refine k_get S hK hP0 rfl (fun _ h => List.mem_cons_of_mem _ (List.mem_append_left _ (List.mem_append_left _ (List.mem_append_left _ (List.mem_append_left _ (List.mem_append_left _ (List.mem_append_left _ (List.mem_append_left _ (List.mem_append_left _ (List.mem_append_right _ (h))))))))))) 3 (by decide) (List.mem_cons_of_mem _ (List.mem_append_left _ (List.mem_append_left _ (List.mem_append_left _ (List.mem_append_left _ (List.mem_append_left _ (List.mem_append_left _ (List.mem_append_left _ (List.mem_append_left _ (List.mem_append_left _ (List.mem_append_left _ (List.mem_of_getElem? (i := 4) rfl)))))))))))) rfl (v := .ref (o + 475)) rfl dX6_receiveAll_1 ?_
  refine k_V (As := []) (rest := []) S hK (c_X0_isComplete l E (o + 475) bn f) gX6_receiveAll_X0_isComplete rfl hd_X0_isComplete ⟨rfl, rfl⟩ ⟨Nat.le_of_ble_eq_true rfl, Nat.le_of_ble_eq_true rfl⟩ (k_recv hK hP2.1 rfl) hP2 rfl hl.1 rfl (Nat.le_of_ble_eq_true rfl) dX6_receiveAll_4 ⟨Nat.le_of_ble_eq_true rfl, Nat.le_of_ble_eq_true rfl⟩ ?_
  refine b_ne (tgt := 20) hx hb dX6_receiveAll_7 (by decide) (fun c7 => ?_) (fun h => absurd h1 h)
  refine lv_aload_n hx hb dX6_receiveAll_20 rfl (lv_at hl 0 rfl) ?_
  refine k_get S hK hP0 rfl (fun _ h => List.mem_cons_of_mem _ (List.mem_append_left _ (List.mem_append_left _ (List.mem_append_left _ (List.mem_append_left _ (List.mem_append_left _ (List.mem_append_left _ (List.mem_append_left _ (List.mem_append_left _ (List.mem_append_right _ (h))))))))))) 0 (by decide) (List.mem_cons_of_mem _ (List.mem_append_left _ (List.mem_append_left _ (List.mem_append_left _ (List.mem_append_left _ (List.mem_append_left _ (List.mem_append_left _ (List.mem_append_left _ (List.mem_append_left _ (List.mem_append_left _ (List.mem_append_left _ (List.mem_of_getElem? (i := 5) rfl)))))))))))) rfl (v := .ref (o + 1)) rfl dX6_receiveAll_21 ?_
  refine k_get S hK (dz_d hP1) rfl (fun _ h => List.mem_cons_of_mem _ (List.mem_append_left _ (List.mem_append_left _ (List.mem_append_left _ (List.mem_append_left _ (List.mem_append_left _ (List.mem_append_left _ (List.mem_append_left _ (List.mem_append_right _ (h)))))))))) 4 (by decide) (List.mem_cons_of_mem _ (List.mem_append_left _ (List.mem_append_left _ (List.mem_append_left _ (List.mem_append_left _ (List.mem_append_left _ (List.mem_append_left _ (List.mem_append_left _ (List.mem_append_left _ (List.mem_append_left _ (List.mem_append_left _ (List.mem_of_getElem? (i := 6) rfl)))))))))))) rfl (v := .int (nI (cn z))) (congrArg (fun x => some (Value.int x)) ((iv_n hI))) dX6_receiveAll_24 ?_
  refine lv_aload_n hx hb dX6_receiveAll_27 rfl (lv_at hl 0 rfl) ?_
  refine k_get S hK hP0 rfl (fun _ h => List.mem_cons_of_mem _ (List.mem_append_left _ (List.mem_append_left _ (List.mem_append_left _ (List.mem_append_left _ (List.mem_append_left _ (List.mem_append_left _ (List.mem_append_left _ (List.mem_append_left _ (List.mem_append_right _ (h))))))))))) 3 (by decide) (List.mem_cons_of_mem _ (List.mem_append_left _ (List.mem_append_left _ (List.mem_append_left _ (List.mem_append_left _ (List.mem_append_left _ (List.mem_append_left _ (List.mem_append_left _ (List.mem_append_left _ (List.mem_append_left _ (List.mem_append_left _ (List.mem_of_getElem? (i := 4) rfl)))))))))))) rfl (v := .ref (o + 475)) rfl dX6_receiveAll_28 ?_
  refine k_V (As := []) (rest := [.int (nI (cn z))]) S hK (c_X0_unitsInText l E (o + 475) bn f hbn) gX6_receiveAll_X0_unitsInText rfl hd_X0_unitsInText ⟨rfl, rfl⟩ ⟨Nat.le_of_ble_eq_true rfl, Nat.le_of_ble_eq_true rfl⟩ (k_recv hK hP2.1 rfl) hP2 rfl hl.1 rfl (Nat.le_of_ble_eq_true rfl) dX6_receiveAll_31 ⟨Nat.le_of_ble_eq_true rfl, Nat.le_of_ble_eq_true rfl⟩ ?_
  refine n_iadd (n := cn z + sC f bn + 1) hx hb dX6_receiveAll_34 (by omega) ?_
  refine lv_bipush (v := nI 20) hx hb dX6_receiveAll_35 (by decide) ?_
  refine n_ile (tgt := 50) hx hb dX6_receiveAll_37 (by decide) (by omega) (by omega) (fun h => absurd h (by omega)) (fun c37 => ?_)
  exact t_thS2 hlS S hX (List.mem_of_getElem? (i := 10) rfl) (List.mem_cons_of_mem _ (List.mem_append_left _ (List.mem_append_left _ (List.mem_append_left _ (List.mem_append_left _ (List.mem_append_left _ (List.mem_append_left _ (List.mem_append_left _ (List.mem_append_left _ (List.mem_append_left _ (List.mem_append_left _ (List.mem_of_getElem? (i := 2) rfl)))))))))))) (List.mem_cons_of_mem _ (List.mem_append_left _ (List.mem_append_left _ (List.mem_append_left _ (List.mem_append_left _ (List.mem_append_left _ (List.mem_append_left _ (List.mem_append_left _ (List.mem_append_left _ (List.mem_append_left _ (List.mem_append_left _ (List.mem_of_getElem? (i := 3) rfl)))))))))))) (fun _ h => List.mem_cons_of_mem _ (List.mem_append_right _ (h))) hl.1 hlk hout dX6_receiveAll_40 dX6_receiveAll_43 dX6_receiveAll_44 dX6_receiveAll_46 dX6_receiveAll_49 ⟨Nat.le_of_ble_eq_true rfl, Nat.le_of_ble_eq_true rfl, Nat.le_of_ble_eq_true rfl, Nat.le_of_ble_eq_true rfl⟩
def rx_X6_undo_1 : Room := { frames := 6, cells := 1, slots := 6, locals := 82 }
set_option maxHeartbeats 4000000 in
set_option maxRecDepth 100000 in
theorem x_X6_undo_1 (l : Launch) (hlS : l.stackTraces = false) (E : ke_E) (A : Nat → Prop) (o : Nat) (z : Nat → Int32) (r : Nat → Int32) : tM l yX6_undo wsX6_undo rx_X6_undo_1 E A [.ref o] (fun H => gg E o H ∧ hy E (o + 119) 0 r H) "java/lang/IllegalStateException" := by
  refine t_hd (cc := cX6_undo) (maxL := 1) (ret := (some .int)) (by decide) rfl (Nat.le_of_ble_eq_true rfl) ?_
  intro p e s m below meth c ls S hlk hout hK hX hP hl
  have hx := S.1
  have hb := S.2.1
  have hts := S.2.2.2.2
  obtain ⟨hP0, hP1⟩ := hP
  have hl : lv_has ls 1 [(0, .ref o)] := hl
  refine lv_aload_n hx hb dX6_undo_0 rfl (lv_at hl 0 rfl) ?_
  refine k_get S hK hP0 rfl (fun _ h => List.mem_cons_of_mem _ (List.mem_append_left _ (List.mem_append_left _ (List.mem_append_left _ (List.mem_append_left _ (List.mem_append_left _ (List.mem_append_left _ (List.mem_append_right _ (h))))))))) 2 (by decide) (List.mem_cons_of_mem _ (List.mem_append_left _ (List.mem_append_left _ (List.mem_append_left _ (List.mem_append_left _ (List.mem_append_left _ (List.mem_append_left _ (List.mem_append_left _ (List.mem_append_left _ (List.mem_of_getElem? (i := 2) rfl)))))))))) rfl (v := .ref (o + 119)) rfl dX6_undo_1 ?_
  refine k_get S hK (hy_at hP1) rfl (fun _ h => List.mem_cons_of_mem _ (List.mem_append_left _ (List.mem_append_left _ (List.mem_append_left _ (List.mem_append_left _ (List.mem_append_left _ (List.mem_append_right _ (h)))))))) 1 (by decide) (List.mem_cons_of_mem _ (List.mem_append_left _ (List.mem_append_left _ (List.mem_append_left _ (List.mem_append_left _ (List.mem_append_left _ (List.mem_append_left _ (List.mem_append_left _ (List.mem_append_left _ (List.mem_of_getElem? (i := 3) rfl)))))))))) rfl (v := .int (nI 0)) rfl dX6_undo_4 ?_
  refine lv_if_gt (tgt := 20) hx hb dX6_undo_7 (by decide) (fun h => absurd h (by decide)) (fun c7 => ?_)
  exact t_thS2 hlS S hX (List.mem_of_getElem? (i := 11) rfl) (List.mem_cons_of_mem _ (List.mem_append_left _ (List.mem_append_left _ (List.mem_append_left _ (List.mem_append_left _ (List.mem_append_left _ (List.mem_append_left _ (List.mem_append_left _ (List.mem_append_left _ (List.mem_of_getElem? (i := 0) rfl)))))))))) (List.mem_cons_of_mem _ (List.mem_append_left _ (List.mem_append_left _ (List.mem_append_left _ (List.mem_append_left _ (List.mem_append_left _ (List.mem_append_left _ (List.mem_append_left _ (List.mem_append_left _ (List.mem_of_getElem? (i := 1) rfl)))))))))) (fun _ h => List.mem_cons_of_mem _ (List.mem_append_right _ (h))) hl.1 hlk hout dX6_undo_10 dX6_undo_13 dX6_undo_14 dX6_undo_16 dX6_undo_19 ⟨Nat.le_of_ble_eq_true rfl, Nat.le_of_ble_eq_true rfl, Nat.le_of_ble_eq_true rfl, Nat.le_of_ble_eq_true rfl⟩
def rx_X6_unit_1 : Room := { frames := 7, cells := 1, slots := 6, locals := 103 }
set_option maxHeartbeats 4000000 in
set_option maxRecDepth 100000 in
theorem x_X6_unit_1 (l : Launch) (hlS : l.stackTraces = false) (E : ke_E) (A : Nat → Prop) (o : Nat) (z : Nat → Int32) (x : Int32) (y : Int32) (hI : iv z) (h1 : ¬ inR x (cn z)) : tM l yX6_unit wsX6_unit rx_X6_unit_1 E A [.ref o, .int x, .int y] (fun H => gg E o H ∧ dz E (o + 1) z H) "java/lang/IndexOutOfBoundsException" := by
  refine t_hd (cc := cX6_unit) (maxL := 4) (ret := (some .int)) (by decide) rfl (Nat.le_of_ble_eq_true rfl) ?_
  intro p e s m below meth c ls S hlk hout hK hX hP hl
  have hx := S.1
  have hb := S.2.1
  have hts := S.2.2.2.2
  obtain ⟨hP0, hP1⟩ := hP
  have hl : lv_has ls 4 [(0, .ref o), (1, .int x), (2, .int y)] := hl
  have hc20 := iv_c hI
  refine lv_aload_n hx hb dX6_unit_0 rfl (lv_at hl 0 rfl) ?_
  refine lv_iload_n hx hb dX6_unit_1 rfl (lv_at hl 1 rfl) ?_
  exact t_V (As := [.int x]) (rest := []) S hK hX (x_X6_unitNumbered l hlS E A o z x hI h1) gX6_unit_X6_unitNumbered rfl hd_X6_unitNumbered ⟨rfl, rfl⟩ ⟨Nat.le_of_ble_eq_true rfl, Nat.le_of_ble_eq_true rfl⟩ (k_recv hK hP0 rfl) ⟨hP0, hP1⟩ rfl hl.1 rfl (Nat.le_of_ble_eq_true rfl) dX6_unit_2 ⟨Nat.le_of_ble_eq_true rfl, Nat.le_of_ble_eq_true rfl⟩ hout hlk
def rx_X6_unit_2 : Room := { frames := 6, cells := 1, slots := 6, locals := 82 }
set_option maxHeartbeats 4000000 in
set_option maxRecDepth 100000 in
theorem x_X6_unit_2 (l : Launch) (hlS : l.stackTraces = false) (E : ke_E) (A : Nat → Prop) (o : Nat) (z : Nat → Int32) (u : Nat) (x : Int32) (hI : iv z) (hu : u < cn z) (h1 : ¬ inR x 14) : tM l yX6_unit wsX6_unit rx_X6_unit_2 E A [.ref o, .int (nI u), .int x] (fun H => gg E o H ∧ dz E (o + 1) z H) "java/lang/IllegalArgumentException" := by
  refine t_hd (cc := cX6_unit) (maxL := 4) (ret := (some .int)) (by decide) rfl (Nat.le_of_ble_eq_true rfl) ?_
  intro p e s m below meth c ls S hlk hout hK hX hP hl
  have hx := S.1
  have hb := S.2.1
  have hts := S.2.2.2.2
  obtain ⟨hP0, hP1⟩ := hP
  have hl : lv_has ls 4 [(0, .ref o), (1, .int (nI u)), (2, .int x)] := hl
  have hc20 := iv_c hI
  refine lv_aload_n hx hb dX6_unit_0 rfl (lv_at hl 0 rfl) ?_
  refine lv_iload_n hx hb dX6_unit_1 rfl (lv_at hl 1 rfl) ?_
  refine k_V (As := [.int (nI u)]) (rest := []) S hK (c_X6_unitNumbered l E o z u hI hu) gX6_unit_X6_unitNumbered rfl hd_X6_unitNumbered ⟨rfl, rfl⟩ ⟨Nat.le_of_ble_eq_true rfl, Nat.le_of_ble_eq_true rfl⟩ (k_recv hK hP0 rfl) ⟨hP0, hP1⟩ rfl hl.1 rfl (Nat.le_of_ble_eq_true rfl) dX6_unit_2 ⟨Nat.le_of_ble_eq_true rfl, Nat.le_of_ble_eq_true rfl⟩ ?_
  refine lv_astore_n (lv' := [(3, .ref (o + 1 + 2*u + 19)), (0, .ref o), (1, .int (nI u)), (2, .int x)]) hx hb dX6_unit_5 rfl hl (by decide) rfl (fun ls hl => ?_)
  refine lv_iload_n hx hb dX6_unit_6 rfl (lv_at hl 3 rfl) ?_
  refine lv_tableOut (tgt := 178) hx hb dX6_unit_7 (by rcases not_inR (b := 13) (by decide) h1 with q | q; exact Or.inl q; exact Or.inr (by omega)) (by decide) ?_
  exact t_thS1 hlS S hX (List.mem_of_getElem? (i := 12) rfl) (List.mem_cons_of_mem _ (List.mem_append_left _ (List.mem_append_left _ (List.mem_append_left _ (List.mem_append_left _ (List.mem_append_left _ (List.mem_append_left _ (List.mem_append_left _ (List.mem_of_getElem? (i := 0) rfl))))))))) (List.mem_cons_of_mem _ (List.mem_append_left _ (List.mem_append_left _ (List.mem_append_left _ (List.mem_append_left _ (List.mem_append_left _ (List.mem_append_left _ (List.mem_append_left _ (List.mem_of_getElem? (i := 1) rfl))))))))) (fun _ h => List.mem_cons_of_mem _ (List.mem_append_left _ (List.mem_append_right _ (h)))) hl.1 hlk hout dX6_unit_178 dX6_unit_181 dX6_unit_182 dX6_unit_184 dX6_unit_187 ⟨Nat.le_of_ble_eq_true rfl, Nat.le_of_ble_eq_true rfl, Nat.le_of_ble_eq_true rfl, Nat.le_of_ble_eq_true rfl⟩
def rx_X6_productOf_1 : Room := { frames := 7, cells := 1, slots := 6, locals := 103 }
set_option maxHeartbeats 4000000 in
set_option maxRecDepth 100000 in
theorem x_X6_productOf_1 (l : Launch) (hlS : l.stackTraces = false) (E : ke_E) (A : Nat → Prop) (o : Nat) (z : Nat → Int32) (x : Int32) (y : Int32) (hI : iv z) (h1 : ¬ inR x 6) : tM l yX6_productOf wsX6_productOf rx_X6_productOf_1 E A [.ref o, .int x, .int y] (fun H => gg E o H ∧ dz E (o + 1) z H) "java/lang/IndexOutOfBoundsException" := by
  refine t_hd (cc := cX6_productOf) (maxL := 4) (ret := (some .int)) (by decide) rfl (Nat.le_of_ble_eq_true rfl) ?_
  intro p e s m below meth c ls S hlk hout hK hX hP hl
  have hx := S.1
  have hb := S.2.1
  have hts := S.2.2.2.2
  obtain ⟨hP0, hP1⟩ := hP
  have hl : lv_has ls 4 [(0, .ref o), (1, .int x), (2, .int y)] := hl
  have hc20 := iv_c hI
  refine lv_aload_n hx hb dX6_productOf_0 rfl (lv_at hl 0 rfl) ?_
  refine lv_iload_n hx hb dX6_productOf_1 rfl (lv_at hl 1 rfl) ?_
  exact t_V (As := [.int x]) (rest := []) S hK hX (x_X6_productNumbered l hlS E A o z x hI h1) gX6_productOf_X6_productNumbered rfl hd_X6_productNumbered ⟨rfl, rfl⟩ ⟨Nat.le_of_ble_eq_true rfl, Nat.le_of_ble_eq_true rfl⟩ (k_recv hK hP0 rfl) ⟨hP0, hP1⟩ rfl hl.1 rfl (Nat.le_of_ble_eq_true rfl) dX6_productOf_2 ⟨Nat.le_of_ble_eq_true rfl, Nat.le_of_ble_eq_true rfl⟩ hout hlk
def rx_X6_productOf_2 : Room := { frames := 6, cells := 1, slots := 6, locals := 82 }
set_option maxHeartbeats 4000000 in
set_option maxRecDepth 100000 in
theorem x_X6_productOf_2 (l : Launch) (hlS : l.stackTraces = false) (E : ke_E) (A : Nat → Prop) (o : Nat) (z : Nat → Int32) (q : Nat) (x : Int32) (hI : iv z) (hq6 : q < 6) (h1 : ¬ inR x 6) : tM l yX6_productOf wsX6_productOf rx_X6_productOf_2 E A [.ref o, .int (nI q), .int x] (fun H => gg E o H ∧ dz E (o + 1) z H) "java/lang/IllegalArgumentException" := by
  refine t_hd (cc := cX6_productOf) (maxL := 4) (ret := (some .int)) (by decide) rfl (Nat.le_of_ble_eq_true rfl) ?_
  intro p e s m below meth c ls S hlk hout hK hX hP hl
  have hx := S.1
  have hb := S.2.1
  have hts := S.2.2.2.2
  obtain ⟨hP0, hP1⟩ := hP
  have hl : lv_has ls 4 [(0, .ref o), (1, .int (nI q)), (2, .int x)] := hl
  have hc20 := iv_c hI
  refine lv_aload_n hx hb dX6_productOf_0 rfl (lv_at hl 0 rfl) ?_
  refine lv_iload_n hx hb dX6_productOf_1 rfl (lv_at hl 1 rfl) ?_
  refine k_V (As := [.int (nI q)]) (rest := []) S hK (c_X6_productNumbered l E o z q hI hq6) gX6_productOf_X6_productNumbered rfl hd_X6_productNumbered ⟨rfl, rfl⟩ ⟨Nat.le_of_ble_eq_true rfl, Nat.le_of_ble_eq_true rfl⟩ (k_recv hK hP0 rfl) ⟨hP0, hP1⟩ rfl hl.1 rfl (Nat.le_of_ble_eq_true rfl) dX6_productOf_2 ⟨Nat.le_of_ble_eq_true rfl, Nat.le_of_ble_eq_true rfl⟩ ?_
  refine lv_astore_n (lv' := [(3, .ref (o + 1 + q + 5)), (0, .ref o), (1, .int (nI q)), (2, .int x)]) hx hb dX6_productOf_5 rfl hl (by decide) rfl (fun ls hl => ?_)
  refine lv_iload_n hx hb dX6_productOf_6 rfl (lv_at hl 3 rfl) ?_
  refine lv_tableOut (tgt := 100) hx hb dX6_productOf_7 (by rcases not_inR (b := 5) (by decide) h1 with q | q; exact Or.inl q; exact Or.inr (by omega)) (by decide) ?_
  exact t_thS1 hlS S hX (List.mem_of_getElem? (i := 12) rfl) (List.mem_cons_of_mem _ (List.mem_append_left _ (List.mem_append_left _ (List.mem_append_left _ (List.mem_append_left _ (List.mem_append_left _ (List.mem_append_left _ (List.mem_append_left _ (List.mem_of_getElem? (i := 0) rfl))))))))) (List.mem_cons_of_mem _ (List.mem_append_left _ (List.mem_append_left _ (List.mem_append_left _ (List.mem_append_left _ (List.mem_append_left _ (List.mem_append_left _ (List.mem_append_left _ (List.mem_of_getElem? (i := 1) rfl))))))))) (fun _ h => List.mem_cons_of_mem _ (List.mem_append_left _ (List.mem_append_right _ (h)))) hl.1 hlk hout dX6_productOf_100 dX6_productOf_103 dX6_productOf_104 dX6_productOf_106 dX6_productOf_109 ⟨Nat.le_of_ble_eq_true rfl, Nat.le_of_ble_eq_true rfl, Nat.le_of_ble_eq_true rfl, Nat.le_of_ble_eq_true rfl⟩
def rx_X6_vendor_1 : Room := { frames := 7, cells := 1, slots := 6, locals := 103 }
set_option maxHeartbeats 4000000 in
set_option maxRecDepth 100000 in
theorem x_X6_vendor_1 (l : Launch) (hlS : l.stackTraces = false) (E : ke_E) (A : Nat → Prop) (o : Nat) (z : Nat → Int32) (x : Int32) (y : Int32) (hI : iv z) (h1 : ¬ inR x 4) : tM l yX6_vendor wsX6_vendor rx_X6_vendor_1 E A [.ref o, .int x, .int y] (fun H => gg E o H ∧ dz E (o + 1) z H) "java/lang/IndexOutOfBoundsException" := by
  refine t_hd (cc := cX6_vendor) (maxL := 4) (ret := (some .int)) (by decide) rfl (Nat.le_of_ble_eq_true rfl) ?_
  intro p e s m below meth c ls S hlk hout hK hX hP hl
  have hx := S.1
  have hb := S.2.1
  have hts := S.2.2.2.2
  obtain ⟨hP0, hP1⟩ := hP
  have hl : lv_has ls 4 [(0, .ref o), (1, .int x), (2, .int y)] := hl
  have hc20 := iv_c hI
  refine lv_aload_n hx hb dX6_vendor_0 rfl (lv_at hl 0 rfl) ?_
  refine lv_iload_n hx hb dX6_vendor_1 rfl (lv_at hl 1 rfl) ?_
  exact t_V (As := [.int x]) (rest := []) S hK hX (x_X6_vendorNumbered l hlS E A o z x hI h1) gX6_vendor_X6_vendorNumbered rfl hd_X6_vendorNumbered ⟨rfl, rfl⟩ ⟨Nat.le_of_ble_eq_true rfl, Nat.le_of_ble_eq_true rfl⟩ (k_recv hK hP0 rfl) ⟨hP0, hP1⟩ rfl hl.1 rfl (Nat.le_of_ble_eq_true rfl) dX6_vendor_2 ⟨Nat.le_of_ble_eq_true rfl, Nat.le_of_ble_eq_true rfl⟩ hout hlk
def rx_X6_vendor_2 : Room := { frames := 6, cells := 1, slots := 6, locals := 82 }
set_option maxHeartbeats 4000000 in
set_option maxRecDepth 100000 in
theorem x_X6_vendor_2 (l : Launch) (hlS : l.stackTraces = false) (E : ke_E) (A : Nat → Prop) (o : Nat) (z : Nat → Int32) (v : Nat) (x : Int32) (hI : iv z) (hv4 : v < 4) (h1 : ¬ inR x 10) : tM l yX6_vendor wsX6_vendor rx_X6_vendor_2 E A [.ref o, .int (nI v), .int x] (fun H => gg E o H ∧ dz E (o + 1) z H) "java/lang/IllegalArgumentException" := by
  refine t_hd (cc := cX6_vendor) (maxL := 4) (ret := (some .int)) (by decide) rfl (Nat.le_of_ble_eq_true rfl) ?_
  intro p e s m below meth c ls S hlk hout hK hX hP hl
  have hx := S.1
  have hb := S.2.1
  have hts := S.2.2.2.2
  obtain ⟨hP0, hP1⟩ := hP
  have hl : lv_has ls 4 [(0, .ref o), (1, .int (nI v)), (2, .int x)] := hl
  have hc20 := iv_c hI
  refine lv_aload_n hx hb dX6_vendor_0 rfl (lv_at hl 0 rfl) ?_
  refine lv_iload_n hx hb dX6_vendor_1 rfl (lv_at hl 1 rfl) ?_
  refine k_V (As := [.int (nI v)]) (rest := []) S hK (c_X6_vendorNumbered l E o z v hI hv4) gX6_vendor_X6_vendorNumbered rfl hd_X6_vendorNumbered ⟨rfl, rfl⟩ ⟨Nat.le_of_ble_eq_true rfl, Nat.le_of_ble_eq_true rfl⟩ (k_recv hK hP0 rfl) ⟨hP0, hP1⟩ rfl hl.1 rfl (Nat.le_of_ble_eq_true rfl) dX6_vendor_2 ⟨Nat.le_of_ble_eq_true rfl, Nat.le_of_ble_eq_true rfl⟩ ?_
  refine lv_astore_n (lv' := [(3, .ref (o + 1 + 2*v + 11)), (0, .ref o), (1, .int (nI v)), (2, .int x)]) hx hb dX6_vendor_5 rfl hl (by decide) rfl (fun ls hl => ?_)
  refine lv_iload_n hx hb dX6_vendor_6 rfl (lv_at hl 3 rfl) ?_
  refine lv_tableOut (tgt := 126) hx hb dX6_vendor_7 (by rcases not_inR (b := 9) (by decide) h1 with q | q; exact Or.inl q; exact Or.inr (by omega)) (by decide) ?_
  exact t_thS1 hlS S hX (List.mem_of_getElem? (i := 13) rfl) (List.mem_cons_of_mem _ (List.mem_append_left _ (List.mem_append_left _ (List.mem_append_left _ (List.mem_append_left _ (List.mem_append_left _ (List.mem_append_left _ (List.mem_append_left _ (List.mem_of_getElem? (i := 0) rfl))))))))) (List.mem_cons_of_mem _ (List.mem_append_left _ (List.mem_append_left _ (List.mem_append_left _ (List.mem_append_left _ (List.mem_append_left _ (List.mem_append_left _ (List.mem_append_left _ (List.mem_of_getElem? (i := 1) rfl))))))))) (fun _ h => List.mem_cons_of_mem _ (List.mem_append_left _ (List.mem_append_right _ (h)))) hl.1 hlk hout dX6_vendor_126 dX6_vendor_129 dX6_vendor_130 dX6_vendor_132 dX6_vendor_135 ⟨Nat.le_of_ble_eq_true rfl, Nat.le_of_ble_eq_true rfl, Nat.le_of_ble_eq_true rfl, Nat.le_of_ble_eq_true rfl⟩
def rx_X6_inWorkshop_1 : Room := { frames := 7, cells := 1, slots := 6, locals := 104 }
set_option maxHeartbeats 4000000 in
set_option maxRecDepth 100000 in
theorem x_X6_inWorkshop_1 (l : Launch) (hlS : l.stackTraces = false) (E : ke_E) (A : Nat → Prop) (o : Nat) (z : Nat → Int32) (x : Int32) (hI : iv z) (h1 : ¬ inR x 20) : tM l yX6_inWorkshop wsX6_inWorkshop rx_X6_inWorkshop_1 E A [.ref o, .int x] (fun H => gg E o H ∧ dz E (o + 1) z H) "java/lang/IllegalArgumentException" := by
  refine t_hd (cc := cX6_inWorkshop) (maxL := 2) (ret := (some .int)) (by decide) rfl (Nat.le_of_ble_eq_true rfl) ?_
  intro p e s m below meth c ls S hlk hout hK hX hP hl
  have hx := S.1
  have hb := S.2.1
  have hts := S.2.2.2.2
  obtain ⟨hP0, hP1⟩ := hP
  have hl : lv_has ls 2 [(0, .ref o), (1, .int x)] := hl
  have hc20 := iv_c hI
  refine lv_iload_n hx hb dX6_inWorkshop_0 rfl (lv_at hl 1 rfl) ?_
  refine lv_iconst (v := nI 0) hx hb dX6_inWorkshop_1 (by decide) ?_
  refine lv_bipush (v := nI 19) hx hb dX6_inWorkshop_2 (by decide) ?_
  exact t_S (As := [.int x, .int (nI 0), .int (nI 19)]) (rest := []) S hK hX (x_X6_requireRange l hlS E A 0 19 x (fun q => h1 ((inR_iff (by omega)).mp q))) gX6_inWorkshop_X6_requireRange rfl hd_X6_requireRange ⟨rfl, rfl⟩ ⟨Nat.le_of_ble_eq_true rfl, Nat.le_of_ble_eq_true rfl⟩ trivial rfl hl.1 rfl (Nat.le_of_ble_eq_true rfl) dX6_inWorkshop_4 ⟨Nat.le_of_ble_eq_true rfl, Nat.le_of_ble_eq_true rfl⟩ hout hlk
def rx_X6_waiting_1 : Room := { frames := 7, cells := 1, slots := 6, locals := 104 }
set_option maxHeartbeats 4000000 in
set_option maxRecDepth 100000 in
theorem x_X6_waiting_1 (l : Launch) (hlS : l.stackTraces = false) (E : ke_E) (A : Nat → Prop) (o : Nat) (z : Nat → Int32) (x : Int32) (hI : iv z) (h1 : ¬ inR x 20) : tM l yX6_waiting wsX6_waiting rx_X6_waiting_1 E A [.ref o, .int x] (fun H => gg E o H ∧ dz E (o + 1) z H) "java/lang/IllegalArgumentException" := by
  refine t_hd (cc := cX6_waiting) (maxL := 2) (ret := (some .int)) (by decide) rfl (Nat.le_of_ble_eq_true rfl) ?_
  intro p e s m below meth c ls S hlk hout hK hX hP hl
  have hx := S.1
  have hb := S.2.1
  have hts := S.2.2.2.2
  obtain ⟨hP0, hP1⟩ := hP
  have hl : lv_has ls 2 [(0, .ref o), (1, .int x)] := hl
  have hc20 := iv_c hI
  refine lv_iload_n hx hb dX6_waiting_0 rfl (lv_at hl 1 rfl) ?_
  refine lv_iconst (v := nI 0) hx hb dX6_waiting_1 (by decide) ?_
  refine lv_bipush (v := nI 19) hx hb dX6_waiting_2 (by decide) ?_
  exact t_S (As := [.int x, .int (nI 0), .int (nI 19)]) (rest := []) S hK hX (x_X6_requireRange l hlS E A 0 19 x (fun q => h1 ((inR_iff (by omega)).mp q))) gX6_waiting_X6_requireRange rfl hd_X6_requireRange ⟨rfl, rfl⟩ ⟨Nat.le_of_ble_eq_true rfl, Nat.le_of_ble_eq_true rfl⟩ trivial rfl hl.1 rfl (Nat.le_of_ble_eq_true rfl) dX6_waiting_4 ⟨Nat.le_of_ble_eq_true rfl, Nat.le_of_ble_eq_true rfl⟩ hout hlk
def rx_X6_count_1 : Room := { frames := 6, cells := 1, slots := 6, locals := 82 }
set_option maxHeartbeats 4000000 in
set_option maxRecDepth 100000 in
theorem x_X6_count_1 (l : Launch) (hlS : l.stackTraces = false) (E : ke_E) (A : Nat → Prop) (o : Nat) (z : Nat → Int32) (x : Int32) (hI : iv z) (h1 : ¬ inR x 14) : tM l yX6_count wsX6_count rx_X6_count_1 E A [.ref o, .int x] (fun H => gg E o H ∧ dz E (o + 1) z H) "java/lang/IllegalArgumentException" := by
  refine t_hd (cc := cX6_count) (maxL := 2) (ret := (some .int)) (by decide) rfl (Nat.le_of_ble_eq_true rfl) ?_
  intro p e s m below meth c ls S hlk hout hK hX hP hl
  have hx := S.1
  have hb := S.2.1
  have hts := S.2.2.2.2
  obtain ⟨hP0, hP1⟩ := hP
  have hl : lv_has ls 2 [(0, .ref o), (1, .int x)] := hl
  have hc20 := iv_c hI
  refine lv_iload_n hx hb dX6_count_0 rfl (lv_at hl 1 rfl) ?_
  refine lv_tableOut (tgt := 189) hx hb dX6_count_1 (by rcases not_inR (b := 13) (by decide) h1 with q | q; exact Or.inl q; exact Or.inr (by omega)) (by decide) ?_
  exact t_thS1 hlS S hX (List.mem_of_getElem? (i := 13) rfl) (List.mem_cons_of_mem _ (List.mem_append_left _ (List.mem_append_left _ (List.mem_append_left _ (List.mem_append_left _ (List.mem_append_left _ (List.mem_append_left _ (List.mem_append_left _ (List.mem_append_left _ (List.mem_of_getElem? (i := 0) rfl)))))))))) (List.mem_cons_of_mem _ (List.mem_append_left _ (List.mem_append_left _ (List.mem_append_left _ (List.mem_append_left _ (List.mem_append_left _ (List.mem_append_left _ (List.mem_append_left _ (List.mem_append_left _ (List.mem_of_getElem? (i := 1) rfl)))))))))) (fun _ h => List.mem_cons_of_mem _ (List.mem_append_right _ (h))) hl.1 hlk hout dX6_count_189 dX6_count_192 dX6_count_193 dX6_count_195 dX6_count_198 ⟨Nat.le_of_ble_eq_true rfl, Nat.le_of_ble_eq_true rfl, Nat.le_of_ble_eq_true rfl, Nat.le_of_ble_eq_true rfl⟩
def rx_X6_setting_1 : Room := { frames := 6, cells := 1, slots := 6, locals := 82 }
set_option maxHeartbeats 4000000 in
set_option maxRecDepth 100000 in
theorem x_X6_setting_1 (l : Launch) (hlS : l.stackTraces = false) (E : ke_E) (A : Nat → Prop) (o : Nat) (z : Nat → Int32) (x : Int32) (hI : iv z) (h1 : ¬ inR x 5) : tM l yX6_setting wsX6_setting rx_X6_setting_1 E A [.ref o, .int x] (fun H => gg E o H ∧ dz E (o + 1) z H) "java/lang/IndexOutOfBoundsException" := by
  refine t_hd (cc := cX6_setting) (maxL := 2) (ret := (some .int)) (by decide) rfl (Nat.le_of_ble_eq_true rfl) ?_
  intro p e s m below meth c ls S hlk hout hK hX hP hl
  have hx := S.1
  have hb := S.2.1
  have hts := S.2.2.2.2
  obtain ⟨hP0, hP1⟩ := hP
  have hl : lv_has ls 2 [(0, .ref o), (1, .int x)] := hl
  have hc20 := iv_c hI
  refine lv_iload_n hx hb dX6_setting_0 rfl (lv_at hl 1 rfl) ?_
  refine lv_aload_n hx hb dX6_setting_1 rfl (lv_at hl 0 rfl) ?_
  refine k_get S hK hP0 rfl (fun _ h => List.mem_cons_of_mem _ (List.mem_append_left _ (List.mem_append_left _ (List.mem_append_right _ (h))))) 0 (by decide) (List.mem_cons_of_mem _ (List.mem_append_left _ (List.mem_append_left _ (List.mem_append_left _ (List.mem_of_getElem? (i := 2) rfl))))) rfl (v := .ref (o + 1)) rfl dX6_setting_2 ?_
  refine k_get S hK (dz_d hP1) rfl (fun _ h => List.mem_cons_of_mem _ (List.mem_append_left _ (List.mem_append_right _ (h)))) 3 (by decide) (List.mem_cons_of_mem _ (List.mem_append_left _ (List.mem_append_left _ (List.mem_append_left _ (List.mem_of_getElem? (i := 3) rfl))))) rfl (v := .ref (o + 1 + 4)) rfl dX6_setting_5 ?_
  refine k_alen hx hb hK (t := 0) rfl (dz_st hP1) dX6_setting_8 ?_
  refine k_top (y := nI 5) rfl ?_
  refine k_S (As := [.int x, .int (nI 5)]) (rest := []) S hK (c_X6_isIndex l E x 5 (by omega)) gX6_setting_X6_isIndex rfl hd_X6_isIndex ⟨rfl, rfl⟩ ⟨Nat.le_of_ble_eq_true rfl, Nat.le_of_ble_eq_true rfl⟩ trivial rfl hl.1 rfl (Nat.le_of_ble_eq_true rfl) dX6_setting_9 ⟨Nat.le_of_ble_eq_true rfl, Nat.le_of_ble_eq_true rfl⟩ ?_
  refine b_ne (tgt := 25) hx hb dX6_setting_12 (by decide) (fun h => absurd h h1) (fun c12 => ?_)
  exact t_thS0 hlS S hX (List.mem_of_getElem? (i := 1) rfl) (List.mem_cons_of_mem _ (List.mem_append_left _ (List.mem_append_left _ (List.mem_append_left _ (List.mem_of_getElem? (i := 0) rfl))))) (List.mem_cons_of_mem _ (List.mem_append_left _ (List.mem_append_left _ (List.mem_append_left _ (List.mem_of_getElem? (i := 1) rfl))))) (fun _ h => List.mem_cons_of_mem _ (List.mem_append_right _ (h))) hl.1 hlk hout dX6_setting_15 dX6_setting_18 dX6_setting_19 dX6_setting_21 dX6_setting_24 ⟨Nat.le_of_ble_eq_true rfl, Nat.le_of_ble_eq_true rfl, Nat.le_of_ble_eq_true rfl, Nat.le_of_ble_eq_true rfl⟩
def rx_X6_whyNot_1 : Room := { frames := 7, cells := 1, slots := 6, locals := 103 }
set_option maxHeartbeats 4000000 in
set_option maxRecDepth 100000 in
theorem x_X6_whyNot_1 (l : Launch) (hlS : l.stackTraces = false) (E : ke_E) (A : Nat → Prop) (o : Nat) (z : Nat → Int32) (x : Int32) (y : Int32) (hI : iv z) (h1 : ¬ inR x (cn z)) : tM l yX6_whyNot wsX6_whyNot rx_X6_whyNot_1 E A [.ref o, .int x, .int y] (fun H => gg E o H ∧ dz E (o + 1) z H) "java/lang/IndexOutOfBoundsException" := by
  refine t_hd (cc := cX6_whyNot) (maxL := 4) (ret := (some .int)) (by decide) rfl (Nat.le_of_ble_eq_true rfl) ?_
  intro p e s m below meth c ls S hlk hout hK hX hP hl
  have hx := S.1
  have hb := S.2.1
  have hts := S.2.2.2.2
  obtain ⟨hP0, hP1⟩ := hP
  have hl : lv_has ls 4 [(0, .ref o), (1, .int x), (2, .int y)] := hl
  have hc20 := iv_c hI
  refine lv_aload_n hx hb dX6_whyNot_0 rfl (lv_at hl 0 rfl) ?_
  refine lv_iload_n hx hb dX6_whyNot_1 rfl (lv_at hl 1 rfl) ?_
  exact t_V (As := [.int x]) (rest := []) S hK hX (x_X6_unitNumbered l hlS E A o z x hI h1) gX6_whyNot_X6_unitNumbered rfl hd_X6_unitNumbered ⟨rfl, rfl⟩ ⟨Nat.le_of_ble_eq_true rfl, Nat.le_of_ble_eq_true rfl⟩ (k_recv hK hP0 rfl) ⟨hP0, hP1⟩ rfl hl.1 rfl (Nat.le_of_ble_eq_true rfl) dX6_whyNot_2 ⟨Nat.le_of_ble_eq_true rfl, Nat.le_of_ble_eq_true rfl⟩ hout hlk
def rx_X6_whyNot_2 : Room := { frames := 7, cells := 1, slots := 6, locals := 104 }
set_option maxHeartbeats 4000000 in
set_option maxRecDepth 100000 in
theorem x_X6_whyNot_2 (l : Launch) (hlS : l.stackTraces = false) (E : ke_E) (A : Nat → Prop) (o : Nat) (z : Nat → Int32) (u : Nat) (y : Int32) (hI : iv z) (hu : u < cn z) (h1 : ¬ (nI 1 ≤ y ∧ y ≤ nI 4)) : tM l yX6_whyNot wsX6_whyNot rx_X6_whyNot_2 E A [.ref o, .int (nI u), .int y] (fun H => gg E o H ∧ dz E (o + 1) z H) "java/lang/IllegalArgumentException" := by
  refine t_hd (cc := cX6_whyNot) (maxL := 4) (ret := (some .int)) (by decide) rfl (Nat.le_of_ble_eq_true rfl) ?_
  intro p e s m below meth c ls S hlk hout hK hX hP hl
  have hx := S.1
  have hb := S.2.1
  have hts := S.2.2.2.2
  obtain ⟨hP0, hP1⟩ := hP
  have hl : lv_has ls 4 [(0, .ref o), (1, .int (nI u)), (2, .int y)] := hl
  have hc20 := iv_c hI
  refine lv_aload_n hx hb dX6_whyNot_0 rfl (lv_at hl 0 rfl) ?_
  refine lv_iload_n hx hb dX6_whyNot_1 rfl (lv_at hl 1 rfl) ?_
  refine k_V (As := [.int (nI u)]) (rest := []) S hK (c_X6_unitNumbered l E o z u hI hu) gX6_whyNot_X6_unitNumbered rfl hd_X6_unitNumbered ⟨rfl, rfl⟩ ⟨Nat.le_of_ble_eq_true rfl, Nat.le_of_ble_eq_true rfl⟩ (k_recv hK hP0 rfl) ⟨hP0, hP1⟩ rfl hl.1 rfl (Nat.le_of_ble_eq_true rfl) dX6_whyNot_2 ⟨Nat.le_of_ble_eq_true rfl, Nat.le_of_ble_eq_true rfl⟩ ?_
  refine lv_astore_n (lv' := [(3, .ref (o + 1 + 2*u + 19)), (0, .ref o), (1, .int (nI u)), (2, .int y)]) hx hb dX6_whyNot_5 rfl hl (by decide) rfl (fun ls hl => ?_)
  refine lv_iload_n hx hb dX6_whyNot_6 rfl (lv_at hl 3 rfl) ?_
  refine lv_iconst (v := nI 1) hx hb dX6_whyNot_7 (by decide) ?_
  refine lv_iconst (v := nI 4) hx hb dX6_whyNot_8 (by decide) ?_
  exact t_S (As := [.int y, .int (nI 1), .int (nI 4)]) (rest := []) S hK hX (x_X6_requireRange l hlS E A 1 4 y h1) gX6_whyNot_X6_requireRange rfl hd_X6_requireRange ⟨rfl, rfl⟩ ⟨Nat.le_of_ble_eq_true rfl, Nat.le_of_ble_eq_true rfl⟩ trivial rfl hl.1 rfl (Nat.le_of_ble_eq_true rfl) dX6_whyNot_9 ⟨Nat.le_of_ble_eq_true rfl, Nat.le_of_ble_eq_true rfl⟩ hout hlk
def rx_X6_ifRepaired_1 : Room := { frames := 7, cells := 1, slots := 6, locals := 103 }
set_option maxHeartbeats 4000000 in
set_option maxRecDepth 100000 in
theorem x_X6_ifRepaired_1 (l : Launch) (hlS : l.stackTraces = false) (E : ke_E) (A : Nat → Prop) (o : Nat) (z : Nat → Int32) (x : Int32) (y : Int32) (hI : iv z) (h1 : ¬ inR x (cn z)) : tM l yX6_ifRepaired wsX6_ifRepaired rx_X6_ifRepaired_1 E A [.ref o, .int x, .int y] (fun H => gg E o H ∧ dz E (o + 1) z H) "java/lang/IndexOutOfBoundsException" := by
  refine t_hd (cc := cX6_ifRepaired) (maxL := 4) (ret := (some .int)) (by decide) rfl (Nat.le_of_ble_eq_true rfl) ?_
  intro p e s m below meth c ls S hlk hout hK hX hP hl
  have hx := S.1
  have hb := S.2.1
  have hts := S.2.2.2.2
  obtain ⟨hP0, hP1⟩ := hP
  have hl : lv_has ls 4 [(0, .ref o), (1, .int x), (2, .int y)] := hl
  have hc20 := iv_c hI
  refine lv_aload_n hx hb dX6_ifRepaired_0 rfl (lv_at hl 0 rfl) ?_
  refine lv_iload_n hx hb dX6_ifRepaired_1 rfl (lv_at hl 1 rfl) ?_
  exact t_V (As := [.int x]) (rest := []) S hK hX (x_X6_unitNumbered l hlS E A o z x hI h1) gX6_ifRepaired_X6_unitNumbered rfl hd_X6_unitNumbered ⟨rfl, rfl⟩ ⟨Nat.le_of_ble_eq_true rfl, Nat.le_of_ble_eq_true rfl⟩ (k_recv hK hP0 rfl) ⟨hP0, hP1⟩ rfl hl.1 rfl (Nat.le_of_ble_eq_true rfl) dX6_ifRepaired_2 ⟨Nat.le_of_ble_eq_true rfl, Nat.le_of_ble_eq_true rfl⟩ hout hlk
def rx_X6_ifRepaired_2 : Room := { frames := 7, cells := 1, slots := 6, locals := 104 }
set_option maxHeartbeats 4000000 in
set_option maxRecDepth 100000 in
theorem x_X6_ifRepaired_2 (l : Launch) (hlS : l.stackTraces = false) (E : ke_E) (A : Nat → Prop) (o : Nat) (z : Nat → Int32) (u : Nat) (x : Int32) (hI : iv z) (hu : u < cn z) (h1 : ¬ inR x 3) : tM l yX6_ifRepaired wsX6_ifRepaired rx_X6_ifRepaired_2 E A [.ref o, .int (nI u), .int x] (fun H => gg E o H ∧ dz E (o + 1) z H) "java/lang/IllegalArgumentException" := by
  refine t_hd (cc := cX6_ifRepaired) (maxL := 4) (ret := (some .int)) (by decide) rfl (Nat.le_of_ble_eq_true rfl) ?_
  intro p e s m below meth c ls S hlk hout hK hX hP hl
  have hx := S.1
  have hb := S.2.1
  have hts := S.2.2.2.2
  obtain ⟨hP0, hP1⟩ := hP
  have hl : lv_has ls 4 [(0, .ref o), (1, .int (nI u)), (2, .int x)] := hl
  have hc20 := iv_c hI
  refine lv_aload_n hx hb dX6_ifRepaired_0 rfl (lv_at hl 0 rfl) ?_
  refine lv_iload_n hx hb dX6_ifRepaired_1 rfl (lv_at hl 1 rfl) ?_
  refine k_V (As := [.int (nI u)]) (rest := []) S hK (c_X6_unitNumbered l E o z u hI hu) gX6_ifRepaired_X6_unitNumbered rfl hd_X6_unitNumbered ⟨rfl, rfl⟩ ⟨Nat.le_of_ble_eq_true rfl, Nat.le_of_ble_eq_true rfl⟩ (k_recv hK hP0 rfl) ⟨hP0, hP1⟩ rfl hl.1 rfl (Nat.le_of_ble_eq_true rfl) dX6_ifRepaired_2 ⟨Nat.le_of_ble_eq_true rfl, Nat.le_of_ble_eq_true rfl⟩ ?_
  refine lv_astore_n (lv' := [(3, .ref (o + 1 + 2*u + 19)), (0, .ref o), (1, .int (nI u)), (2, .int x)]) hx hb dX6_ifRepaired_5 rfl hl (by decide) rfl (fun ls hl => ?_)
  refine lv_iload_n hx hb dX6_ifRepaired_6 rfl (lv_at hl 3 rfl) ?_
  refine lv_iconst (v := nI 0) hx hb dX6_ifRepaired_7 (by decide) ?_
  refine lv_iconst (v := nI 2) hx hb dX6_ifRepaired_8 (by decide) ?_
  exact t_S (As := [.int x, .int (nI 0), .int (nI 2)]) (rest := []) S hK hX (x_X6_requireRange l hlS E A 0 2 x (fun q => h1 ((inR_iff (by omega)).mp q))) gX6_ifRepaired_X6_requireRange rfl hd_X6_requireRange ⟨rfl, rfl⟩ ⟨Nat.le_of_ble_eq_true rfl, Nat.le_of_ble_eq_true rfl⟩ trivial rfl hl.1 rfl (Nat.le_of_ble_eq_true rfl) dX6_ifRepaired_9 ⟨Nat.le_of_ble_eq_true rfl, Nat.le_of_ble_eq_true rfl⟩ hout hlk
def rx_X6_bestRoute_1 : Room := { frames := 7, cells := 1, slots := 6, locals := 103 }
set_option maxHeartbeats 4000000 in
set_option maxRecDepth 100000 in
theorem x_X6_bestRoute_1 (l : Launch) (hlS : l.stackTraces = false) (E : ke_E) (A : Nat → Prop) (o : Nat) (z : Nat → Int32) (x : Int32) (hI : iv z) (h1 : ¬ inR x (cn z)) : tM l yX6_bestRoute wsX6_bestRoute rx_X6_bestRoute_1 E A [.ref o, .int x] (fun H => gg E o H ∧ dz E (o + 1) z H) "java/lang/IndexOutOfBoundsException" := by
  refine t_hd (cc := cX6_bestRoute) (maxL := 7) (ret := (some .int)) (by decide) rfl (Nat.le_of_ble_eq_true rfl) ?_
  intro p e s m below meth c ls S hlk hout hK hX hP hl
  have hx := S.1
  have hb := S.2.1
  have hts := S.2.2.2.2
  obtain ⟨hP0, hP1⟩ := hP
  have hl : lv_has ls 7 [(0, .ref o), (1, .int x)] := hl
  have hc20 := iv_c hI
  refine lv_aload_n hx hb dX6_bestRoute_0 rfl (lv_at hl 0 rfl) ?_
  refine lv_iload_n hx hb dX6_bestRoute_1 rfl (lv_at hl 1 rfl) ?_
  exact t_V (As := [.int x]) (rest := []) S hK hX (x_X6_unitNumbered l hlS E A o z x hI h1) gX6_bestRoute_X6_unitNumbered rfl hd_X6_unitNumbered ⟨rfl, rfl⟩ ⟨Nat.le_of_ble_eq_true rfl, Nat.le_of_ble_eq_true rfl⟩ (k_recv hK hP0 rfl) ⟨hP0, hP1⟩ rfl hl.1 rfl (Nat.le_of_ble_eq_true rfl) dX6_bestRoute_2 ⟨Nat.le_of_ble_eq_true rfl, Nat.le_of_ble_eq_true rfl⟩ hout hlk
def rx_X6_claimable_1 : Room := { frames := 7, cells := 1, slots := 6, locals := 103 }
set_option maxHeartbeats 4000000 in
set_option maxRecDepth 100000 in
theorem x_X6_claimable_1 (l : Launch) (hlS : l.stackTraces = false) (E : ke_E) (A : Nat → Prop) (o : Nat) (z : Nat → Int32) (x : Int32) (hI : iv z) (h1 : ¬ inR x (cn z)) : tM l yX6_claimable wsX6_claimable rx_X6_claimable_1 E A [.ref o, .int x] (fun H => gg E o H ∧ dz E (o + 1) z H) "java/lang/IndexOutOfBoundsException" := by
  refine t_hd (cc := cX6_claimable) (maxL := 3) (ret := (some .int)) (by decide) rfl (Nat.le_of_ble_eq_true rfl) ?_
  intro p e s m below meth c ls S hlk hout hK hX hP hl
  have hx := S.1
  have hb := S.2.1
  have hts := S.2.2.2.2
  obtain ⟨hP0, hP1⟩ := hP
  have hl : lv_has ls 3 [(0, .ref o), (1, .int x)] := hl
  have hc20 := iv_c hI
  refine lv_aload_n hx hb dX6_claimable_0 rfl (lv_at hl 0 rfl) ?_
  refine lv_iload_n hx hb dX6_claimable_1 rfl (lv_at hl 1 rfl) ?_
  exact t_V (As := [.int x]) (rest := []) S hK hX (x_X6_unitNumbered l hlS E A o z x hI h1) gX6_claimable_X6_unitNumbered rfl hd_X6_unitNumbered ⟨rfl, rfl⟩ ⟨Nat.le_of_ble_eq_true rfl, Nat.le_of_ble_eq_true rfl⟩ (k_recv hK hP0 rfl) ⟨hP0, hP1⟩ rfl hl.1 rfl (Nat.le_of_ble_eq_true rfl) dX6_claimable_2 ⟨Nat.le_of_ble_eq_true rfl, Nat.le_of_ble_eq_true rfl⟩ hout hlk
